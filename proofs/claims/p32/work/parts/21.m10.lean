set_option maxRecDepth 20000 in
theorem le_X11_init_191 {N : Nat} {r : AS}   {s : AS} (hf : f_X11_init_191 N  s = some r) : Le s r := by
  unfold f_X11_init_191 at hf
  cases hf
  exact Le.rf
set_option maxRecDepth 20000 in
theorem zb_X11_init_191 {N : Nat} {r : AS} {E : EV} (hE : TG E none r)    {s : AS} (hf : f_X11_init_191 N  s = some r) : Z E yX11_init cX11_init 3 none 3 s 191 [] [] := by
  unfold f_X11_init_191 at hf
  cases hf
  exact z_return hE rfl dX11_init_191
set_option maxRecDepth 20000 in
theorem lg_X11_init_172 {N : Nat} {r : AS} {k172 : Nat → Nat → Int32 → AS → Option AS}  (hk172 : ∀ (l0 : Nat) (l1 : Nat) (l2 : Int32) (s : AS), k172 l0 l1 l2 s = some r → Le s r) {l0 : Nat} {l1 : Nat} {l2 : Int32} {s : AS} (hf : g_X11_init_172 N k172 l0 l1 l2 s = some r) : Le s r := by
  unfold g_X11_init_172 at hf
  refine ite_c hf (fun hf => ?_) (fun hf => ?_)
  · exact Le.via (le_X11_init_191 hf) rfl
  · obtain ⟨v35, -, hf⟩ := ob hf
    obtain ⟨d36, -, hf⟩ := ob hf
    exact Le.via (hk172 _ _ _ _ hf) rfl
set_option maxRecDepth 20000 in
theorem le_X11_init_172 {N : Nat} {r : AS}  : ∀ (n : Nat) (l0 : Nat) (l1 : Nat) (l2 : Int32) (s : AS), f_X11_init_172 N n l0 l1 l2 s = some r → Le s r := by
  intro n
  induction n with
  | zero => intro l0 l1 l2 s hf; cases hf
  | succ n ih => intro l0 l1 l2 s hf; exact lg_X11_init_172 ih hf
set_option maxRecDepth 20000 in
theorem zg_X11_init_172 {N : Nat} {r : AS} {k172 : Nat → Nat → Int32 → AS → Option AS} {E : EV} (hE : TG E none r)   (hk172 : ∀ (l0 : Nat) (l1 : Nat) (l2 : Int32) (s : AS), k172 l0 l1 l2 s = some r → Z E yX11_init cX11_init 3 none 3 s 172 [(0, .ref l0), (1, .ref l1), (2, .int l2)] []) (hq172 : ∀ (l0 : Nat) (l1 : Nat) (l2 : Int32) (s : AS), k172 l0 l1 l2 s = some r → Le s r) {l0 : Nat} {l1 : Nat} {l2 : Int32} {s : AS} (hf : g_X11_init_172 N k172 l0 l1 l2 s = some r) : Z E yX11_init cX11_init 3 none 3 s 172 [(0, .ref l0), (1, .ref l1), (2, .int l2)] [] := by
  unfold g_X11_init_172 at hf
  refine z_iload_n 2 dX11_init_172 rfl rfl ?_
  refine z_bipush 12 12 dX11_init_173 (by decide) ?_
  refine z_icmp_ge 191 hf dX11_init_175 (by decide) (fun hf => ?_) (fun hf => ?_)
  · refine z_lv [] [] rfl ?_
    exact zb_X11_init_191 hE hf
  · refine z_aload_n 0 dX11_init_178 rfl rfl ?_
    refine z_gP (ci := 11) (k := 6) (C := RX11) (T := TX11) (N := 14) rfl inlX11 (by decide) mw_2_10 (fun _ _ _ _ h9 => h9) hf (by decide) rfl dX11_init_179  (fun v35 hf => ?_)
    refine z_iload_n 2 dX11_init_182 rfl rfl ?_
    refine z_aload_n 1 dX11_init_183 rfl rfl ?_
    refine z_sP hf dX11_init_184  (fun d36 hf => ?_)
    refine z_iinc [(2, .int (l2 + 1)), (0, .ref l0), (1, .ref l1)] 2 (l2 + 1) dX11_init_185 rfl rfl (by decide) rfl ?_
    refine z_goto 172 dX11_init_188 (by decide) ?_
    refine z_lv [(0, .ref l0), (1, .ref l1), (2, .int (l2 + 1))] [1, 2, 0] rfl ?_
    exact hk172 _ _ _ _ hf
set_option maxRecDepth 20000 in
theorem zb_X11_init_172 {N : Nat} {r : AS} {E : EV} (hE : TG E none r)   : ∀ (n : Nat) (l0 : Nat) (l1 : Nat) (l2 : Int32) (s : AS), f_X11_init_172 N n l0 l1 l2 s = some r → Z E yX11_init cX11_init 3 none 3 s 172 [(0, .ref l0), (1, .ref l1), (2, .int l2)] [] := by
  intro n
  induction n with
  | zero => intro l0 l1 l2 s hf; cases hf
  | succ n ih => intro l0 l1 l2 s hf; exact zg_X11_init_172 hE ih (le_X11_init_172 n) hf
set_option maxRecDepth 20000 in
theorem le_X11_init_169 {N : Nat} {r : AS}  {l0 : Nat} {t0 : Nat} {s : AS} (hf : f_X11_init_169 N l0 t0 s = some r) : Le s r := by
  unfold f_X11_init_169 at hf
  exact Le.via (le_X11_init_172 N _ _ _ _ hf) rfl
set_option maxRecDepth 20000 in
theorem zb_X11_init_169 {N : Nat} {r : AS} {E : EV} (hE : TG E none r)   {l0 : Nat} {t0 : Nat} {s : AS} (hf : f_X11_init_169 N l0 t0 s = some r) : Z E yX11_init cX11_init 3 none 3 s 169 [(0, .ref l0)] [.ref t0] := by
  unfold f_X11_init_169 at hf
  refine z_astore_n [(1, .ref t0), (0, .ref l0)] dX11_init_169 rfl (by decide) rfl ?_
  refine z_iconst 0 0 dX11_init_170 (by decide) ?_
  refine z_istore_n [(2, .int (0 : Int32)), (1, .ref t0), (0, .ref l0)] dX11_init_171 rfl (by decide) rfl ?_
  refine z_lv [(0, .ref l0), (1, .ref t0), (2, .int (0 : Int32))] [2, 1, 0] rfl ?_
  exact zb_X11_init_172 hE N _ _ _ _ hf
set_option maxRecDepth 20000 in
theorem le_X11_init_156 {N : Nat} {r : AS}  {l0 : Nat} {t0 : Nat} {s : AS} (hf : f_X11_init_156 N l0 t0 s = some r) : Le s r := by
  unfold f_X11_init_156 at hf
  obtain ⟨v33, -, hf⟩ := ob hf
  obtain ⟨v34, ev34, hf⟩ := ob hf
  refine Le.of (t := (s.1, s.2)) rfl ((lm_X6_init ev34).tr ?_)
  exact Le.via (le_X11_init_169 hf) rfl
set_option maxRecDepth 20000 in
theorem zb_X11_init_156 {N : Nat} {r : AS} {E : EV} (hE : TG E none r)   {l0 : Nat} {t0 : Nat} {s : AS} (hf : f_X11_init_156 N l0 t0 s = some r) : Z E yX11_init cX11_init 3 none 3 s 156 [(0, .ref l0)] [.ref t0] := by
  unfold f_X11_init_156 at hf
  refine z_dup dX11_init_156 rfl ?_
  refine z_aload_n 0 dX11_init_157 rfl rfl ?_
  refine z_gP (ci := 11) (k := 0) (C := RX11) (T := TX11) (N := 14) rfl inlX11 (by decide) mw_1_15 (fun _ _ _ _ h9 => h9) hf (by decide) rfl dX11_init_158  (fun v33 hf => ?_)
  refine z_bipush 50 50 dX11_init_161 (by decide) ?_
  refine z_sipush 200 200 dX11_init_163 (by decide) ?_
  obtain ⟨v34, ev34, hf⟩ := ob hf
  refine z_cI (As := [.ref v33, .int (50 : Int32), .int (200 : Int32)]) (rest := [.ref t0]) (zm_X6_init ev34).2 (Or.inr (tg_le hE (le_X11_init_169 hf))) mw_6_8 mw_6_9 mw_2_22 mw_6_10 rfl yk_X6_init (by decide) (by decide) rfl (Nat.le_of_ble_eq_true rfl) rfl dX11_init_166 ?_
  exact zb_X11_init_169 hE hf
set_option maxRecDepth 20000 in
theorem le_X11_init_140 {N : Nat} {r : AS}  {l0 : Nat} {t0 : Nat} {t1 : Nat} {s : AS} (hf : f_X11_init_140 N l0 t0 t1 s = some r) : Le s r := by
  unfold f_X11_init_140 at hf
  obtain ⟨d30, -, hf⟩ := ob hf
  obtain ⟨d31, -, hf⟩ := ob hf
  obtain ⟨d32, -, hf⟩ := ob hf
  refine Le.of (t := (s.1, d32)) rfl (le_nObj.tr (u := _) (t := nObj (s.1, d32) 6) ?_)
  exact Le.via (le_X11_init_156 hf) rfl
set_option maxRecDepth 20000 in
theorem zb_X11_init_140 {N : Nat} {r : AS} {E : EV} (hE : TG E none r)   {l0 : Nat} {t0 : Nat} {t1 : Nat} {s : AS} (hf : f_X11_init_140 N l0 t0 t1 s = some r) : Z E yX11_init cX11_init 3 none 3 s 140 [(0, .ref l0)] [.ref t1, .ref t0] := by
  unfold f_X11_init_140 at hf
  refine z_pQ (ci := 11) (k := 11) (C := RX11) (T := TX11) (N := 14) rfl inlX11 (by decide) mw_2_18 (fun _ _ _ _ h9 => h9) tyX11 tyX11_ok nmX11 rfl hf (by decide) rfl rfl rfl dX11_init_140  (fun d30 hf => ?_)
  refine z_aload_n 0 dX11_init_143 rfl rfl ?_
  refine z_iconst 0 0 dX11_init_144 (by decide) ?_
  refine z_pI (ci := 11) (k := 12) (C := RX11) (T := TX11) (N := 14) rfl inlX11 (by decide) mw_2_19 (fun _ _ _ _ h9 => h9) tyX11 tyX11_ok nmX11 rfl hf (Or.inl (by decide)) rfl rfl rfl dX11_init_145  (fun d31 hf => ?_)
  refine z_aload_n 0 dX11_init_148 rfl rfl ?_
  refine z_iconst 0 0 dX11_init_149 (by decide) ?_
  refine z_pI (ci := 11) (k := 13) (C := RX11) (T := TX11) (N := 14) rfl inlX11 (by decide) mw_2_20 (fun _ _ _ _ h9 => h9) tyX11 tyX11_ok nmX11 rfl hf (Or.inl (by decide)) rfl rfl rfl dX11_init_150  (fun d32 hf => ?_)
  refine z_newo (ci := 6) (C := RX6) (T := TX6) (N := 3) rfl inlX6 tyX6 tyX6_ok mw_2_9 mw_2_21 mw_2_22 rfl df_6 (tg_le hE (le_X11_init_156 hf)) dX11_init_153 ?_
  exact zb_X11_init_156 hE hf
set_option maxRecDepth 20000 in
theorem le_X11_init_135 {N : Nat} {r : AS}  {l0 : Nat} {s : AS} (hf : f_X11_init_135 N l0 s = some r) : Le s r := by
  unfold f_X11_init_135 at hf
  obtain ⟨s29, es29, hf⟩ := ob hf
  refine Le.of (t := (s.1, s.2)) rfl ((le_nArr es29).tr ?_)
  exact Le.via (le_X11_init_140 hf) rfl
set_option maxRecDepth 20000 in
theorem zb_X11_init_135 {N : Nat} {r : AS} {E : EV} (hE : TG E none r)   {l0 : Nat} {s : AS} (hf : f_X11_init_135 N l0 s = some r) : Z E yX11_init cX11_init 3 none 3 s 135 [(0, .ref l0)] [] := by
  unfold f_X11_init_135 at hf
  refine z_aload_n 0 dX11_init_135 rfl rfl ?_
  refine z_bipush 16 16 dX11_init_136 (by decide) ?_
  refine z_na3 hf (fun _ hf => tg_le hE (le_X11_init_140 hf)) mw_2_17 dX11_init_138 (fun s29 hf => ?_)
  exact zb_X11_init_140 hE hf
set_option maxRecDepth 20000 in
theorem le_X11_init_132 {N : Nat} {r : AS}  {l0 : Nat} {t0 : Nat} {t1 : Nat} {s : AS} (hf : f_X11_init_132 N l0 t0 t1 s = some r) : Le s r := by
  unfold f_X11_init_132 at hf
  obtain ⟨s28, es28, hf⟩ := ob hf
  refine Le.of (t := (s.1, s.2)) rfl ((le_pP es28).tr ?_)
  exact Le.via (le_X11_init_135 hf) rfl
set_option maxRecDepth 20000 in
theorem zb_X11_init_132 {N : Nat} {r : AS} {E : EV} (hE : TG E none r)   {l0 : Nat} {t0 : Nat} {t1 : Nat} {s : AS} (hf : f_X11_init_132 N l0 t0 t1 s = some r) : Z E yX11_init cX11_init 3 none 3 s 132 [(0, .ref l0)] [.ref t1, .ref t0] := by
  unfold f_X11_init_132 at hf
  refine z_pP (ci := 11) (k := 10) (C := RX11) (T := TX11) (N := 14) rfl inlX11 (by decide) mw_2_16 (fun _ _ _ _ h9 => h9) tyX11 tyX11_ok nmX11 rfl rfl rfl hf (Or.inl (by decide)) rfl rfl rfl dX11_init_132 (fun s28 es28 hf => ?_)
  exact zb_X11_init_135 hE hf
set_option maxRecDepth 20000 in
theorem le_X11_init_127 {N : Nat} {r : AS}  {l0 : Nat} {s : AS} (hf : f_X11_init_127 N l0 s = some r) : Le s r := by
  unfold f_X11_init_127 at hf
  obtain ⟨s27, es27, hf⟩ := ob hf
  refine Le.of (t := (s.1, s.2)) rfl ((le_nArr es27).tr ?_)
  exact Le.via (le_X11_init_132 hf) rfl
set_option maxRecDepth 20000 in
theorem zb_X11_init_127 {N : Nat} {r : AS} {E : EV} (hE : TG E none r)   {l0 : Nat} {s : AS} (hf : f_X11_init_127 N l0 s = some r) : Z E yX11_init cX11_init 3 none 3 s 127 [(0, .ref l0)] [] := by
  unfold f_X11_init_127 at hf
  refine z_aload_n 0 dX11_init_127 rfl rfl ?_
  refine z_bipush 12 12 dX11_init_128 (by decide) ?_
  refine z_na0 hf (fun _ hf => tg_le hE (le_X11_init_132 hf)) mw_2_13 dX11_init_130 (fun s27 hf => ?_)
  exact zb_X11_init_132 hE hf
set_option maxRecDepth 20000 in
theorem le_X11_init_124 {N : Nat} {r : AS}  {l0 : Nat} {t0 : Nat} {t1 : Nat} {s : AS} (hf : f_X11_init_124 N l0 t0 t1 s = some r) : Le s r := by
  unfold f_X11_init_124 at hf
  obtain ⟨s26, es26, hf⟩ := ob hf
  refine Le.of (t := (s.1, s.2)) rfl ((le_pP es26).tr ?_)
  exact Le.via (le_X11_init_127 hf) rfl
set_option maxRecDepth 20000 in
theorem zb_X11_init_124 {N : Nat} {r : AS} {E : EV} (hE : TG E none r)   {l0 : Nat} {t0 : Nat} {t1 : Nat} {s : AS} (hf : f_X11_init_124 N l0 t0 t1 s = some r) : Z E yX11_init cX11_init 3 none 3 s 124 [(0, .ref l0)] [.ref t1, .ref t0] := by
  unfold f_X11_init_124 at hf
  refine z_pP (ci := 11) (k := 9) (C := RX11) (T := TX11) (N := 14) rfl inlX11 (by decide) mw_2_15 (fun _ _ _ _ h9 => h9) tyX11 tyX11_ok nmX11 rfl rfl rfl hf (Or.inl (by decide)) rfl rfl rfl dX11_init_124 (fun s26 es26 hf => ?_)
  exact zb_X11_init_127 hE hf
set_option maxRecDepth 20000 in
theorem le_X11_init_119 {N : Nat} {r : AS}  {l0 : Nat} {s : AS} (hf : f_X11_init_119 N l0 s = some r) : Le s r := by
  unfold f_X11_init_119 at hf
  obtain ⟨s25, es25, hf⟩ := ob hf
  refine Le.of (t := (s.1, s.2)) rfl ((le_nArr es25).tr ?_)
  exact Le.via (le_X11_init_124 hf) rfl
set_option maxRecDepth 20000 in
theorem zb_X11_init_119 {N : Nat} {r : AS} {E : EV} (hE : TG E none r)   {l0 : Nat} {s : AS} (hf : f_X11_init_119 N l0 s = some r) : Z E yX11_init cX11_init 3 none 3 s 119 [(0, .ref l0)] [] := by
  unfold f_X11_init_119 at hf
  refine z_aload_n 0 dX11_init_119 rfl rfl ?_
  refine z_bipush 12 12 dX11_init_120 (by decide) ?_
  refine z_na0 hf (fun _ hf => tg_le hE (le_X11_init_124 hf)) mw_2_13 dX11_init_122 (fun s25 hf => ?_)
  exact zb_X11_init_124 hE hf
set_option maxRecDepth 20000 in
theorem le_X11_init_116 {N : Nat} {r : AS}  {l0 : Nat} {t0 : Nat} {t1 : Nat} {s : AS} (hf : f_X11_init_116 N l0 t0 t1 s = some r) : Le s r := by
  unfold f_X11_init_116 at hf
  obtain ⟨s24, es24, hf⟩ := ob hf
  refine Le.of (t := (s.1, s.2)) rfl ((le_pP es24).tr ?_)
  exact Le.via (le_X11_init_119 hf) rfl
set_option maxRecDepth 20000 in
theorem zb_X11_init_116 {N : Nat} {r : AS} {E : EV} (hE : TG E none r)   {l0 : Nat} {t0 : Nat} {t1 : Nat} {s : AS} (hf : f_X11_init_116 N l0 t0 t1 s = some r) : Z E yX11_init cX11_init 3 none 3 s 116 [(0, .ref l0)] [.ref t1, .ref t0] := by
  unfold f_X11_init_116 at hf
  refine z_pP (ci := 11) (k := 8) (C := RX11) (T := TX11) (N := 14) rfl inlX11 (by decide) mw_2_14 (fun _ _ _ _ h9 => h9) tyX11 tyX11_ok nmX11 rfl rfl rfl hf (Or.inl (by decide)) rfl rfl rfl dX11_init_116 (fun s24 es24 hf => ?_)
  exact zb_X11_init_119 hE hf
set_option maxRecDepth 20000 in
theorem le_X11_init_111 {N : Nat} {r : AS}  {l0 : Nat} {s : AS} (hf : f_X11_init_111 N l0 s = some r) : Le s r := by
  unfold f_X11_init_111 at hf
  obtain ⟨s23, es23, hf⟩ := ob hf
  refine Le.of (t := (s.1, s.2)) rfl ((le_nArr es23).tr ?_)
  exact Le.via (le_X11_init_116 hf) rfl
set_option maxRecDepth 20000 in
theorem zb_X11_init_111 {N : Nat} {r : AS} {E : EV} (hE : TG E none r)   {l0 : Nat} {s : AS} (hf : f_X11_init_111 N l0 s = some r) : Z E yX11_init cX11_init 3 none 3 s 111 [(0, .ref l0)] [] := by
  unfold f_X11_init_111 at hf
  refine z_aload_n 0 dX11_init_111 rfl rfl ?_
  refine z_bipush 12 12 dX11_init_112 (by decide) ?_
  refine z_na0 hf (fun _ hf => tg_le hE (le_X11_init_116 hf)) mw_2_13 dX11_init_114 (fun s23 hf => ?_)
  exact zb_X11_init_116 hE hf
set_option maxRecDepth 20000 in
theorem le_X11_init_108 {N : Nat} {r : AS}  {l0 : Nat} {t0 : Nat} {t1 : Nat} {s : AS} (hf : f_X11_init_108 N l0 t0 t1 s = some r) : Le s r := by
  unfold f_X11_init_108 at hf
  obtain ⟨s22, es22, hf⟩ := ob hf
  refine Le.of (t := (s.1, s.2)) rfl ((le_pP es22).tr ?_)
  exact Le.via (le_X11_init_111 hf) rfl
set_option maxRecDepth 20000 in
theorem zb_X11_init_108 {N : Nat} {r : AS} {E : EV} (hE : TG E none r)   {l0 : Nat} {t0 : Nat} {t1 : Nat} {s : AS} (hf : f_X11_init_108 N l0 t0 t1 s = some r) : Z E yX11_init cX11_init 3 none 3 s 108 [(0, .ref l0)] [.ref t1, .ref t0] := by
  unfold f_X11_init_108 at hf
  refine z_pP (ci := 11) (k := 7) (C := RX11) (T := TX11) (N := 14) rfl inlX11 (by decide) mw_2_12 (fun _ _ _ _ h9 => h9) tyX11 tyX11_ok nmX11 rfl rfl rfl hf (Or.inl (by decide)) rfl rfl rfl dX11_init_108 (fun s22 es22 hf => ?_)
  exact zb_X11_init_111 hE hf
set_option maxRecDepth 20000 in
theorem le_X11_init_103 {N : Nat} {r : AS}  {l0 : Nat} {s : AS} (hf : f_X11_init_103 N l0 s = some r) : Le s r := by
  unfold f_X11_init_103 at hf
  obtain ⟨s21, es21, hf⟩ := ob hf
  refine Le.of (t := (s.1, s.2)) rfl ((le_nArr es21).tr ?_)
  exact Le.via (le_X11_init_108 hf) rfl
set_option maxRecDepth 20000 in
theorem zb_X11_init_103 {N : Nat} {r : AS} {E : EV} (hE : TG E none r)   {l0 : Nat} {s : AS} (hf : f_X11_init_103 N l0 s = some r) : Z E yX11_init cX11_init 3 none 3 s 103 [(0, .ref l0)] [] := by
  unfold f_X11_init_103 at hf
  refine z_aload_n 0 dX11_init_103 rfl rfl ?_
  refine z_bipush 20 20 dX11_init_104 (by decide) ?_
  refine z_na2 hf (fun _ hf => tg_le hE (le_X11_init_108 hf)) mw_2_11 dX11_init_106 (fun s21 hf => ?_)
  exact zb_X11_init_108 hE hf
set_option maxRecDepth 20000 in
theorem le_X11_init_100 {N : Nat} {r : AS}  {l0 : Nat} {t0 : Nat} {t1 : Nat} {s : AS} (hf : f_X11_init_100 N l0 t0 t1 s = some r) : Le s r := by
  unfold f_X11_init_100 at hf
  obtain ⟨s20, es20, hf⟩ := ob hf
  refine Le.of (t := (s.1, s.2)) rfl ((le_pP es20).tr ?_)
  exact Le.via (le_X11_init_103 hf) rfl
set_option maxRecDepth 20000 in
theorem zb_X11_init_100 {N : Nat} {r : AS} {E : EV} (hE : TG E none r)   {l0 : Nat} {t0 : Nat} {t1 : Nat} {s : AS} (hf : f_X11_init_100 N l0 t0 t1 s = some r) : Z E yX11_init cX11_init 3 none 3 s 100 [(0, .ref l0)] [.ref t1, .ref t0] := by
  unfold f_X11_init_100 at hf
  refine z_pP (ci := 11) (k := 6) (C := RX11) (T := TX11) (N := 14) rfl inlX11 (by decide) mw_2_10 (fun _ _ _ _ h9 => h9) tyX11 tyX11_ok nmX11 rfl rfl rfl hf (Or.inl (by decide)) rfl rfl rfl dX11_init_100 (fun s20 es20 hf => ?_)
  exact zb_X11_init_103 hE hf
set_option maxRecDepth 20000 in
theorem le_X11_init_94 {N : Nat} {r : AS}  {l0 : Nat} {s : AS} (hf : f_X11_init_94 N l0 s = some r) : Le s r := by
  unfold f_X11_init_94 at hf
  obtain ⟨s19, es19, hf⟩ := ob hf
  refine Le.of (t := (s.1, s.2)) rfl ((le_nArr es19).tr ?_)
  exact Le.via (le_X11_init_100 hf) rfl
set_option maxRecDepth 20000 in
theorem zb_X11_init_94 {N : Nat} {r : AS} {E : EV} (hE : TG E none r)   {l0 : Nat} {s : AS} (hf : f_X11_init_94 N l0 s = some r) : Z E yX11_init cX11_init 3 none 3 s 94 [(0, .ref l0)] [] := by
  unfold f_X11_init_94 at hf
  refine z_aload_n 0 dX11_init_94 rfl rfl ?_
  refine z_bipush 12 12 dX11_init_95 (by decide) ?_
  refine z_newq hf (fun _ hf => tg_le hE (le_X11_init_100 hf)) mw_2_9 dX11_init_97 (fun s19 hf => ?_)
  exact zb_X11_init_100 hE hf
set_option maxRecDepth 20000 in
theorem le_X11_init_91 {N : Nat} {r : AS}  {l0 : Nat} {t0 : Nat} {t1 : Nat} {s : AS} (hf : f_X11_init_91 N l0 t0 t1 s = some r) : Le s r := by
  unfold f_X11_init_91 at hf
  obtain ⟨s18, es18, hf⟩ := ob hf
  refine Le.of (t := (s.1, s.2)) rfl ((le_pP es18).tr ?_)
  exact Le.via (le_X11_init_94 hf) rfl
set_option maxRecDepth 20000 in
theorem zb_X11_init_91 {N : Nat} {r : AS} {E : EV} (hE : TG E none r)   {l0 : Nat} {t0 : Nat} {t1 : Nat} {s : AS} (hf : f_X11_init_91 N l0 t0 t1 s = some r) : Z E yX11_init cX11_init 3 none 3 s 91 [(0, .ref l0)] [.ref t1, .ref t0] := by
  unfold f_X11_init_91 at hf
  refine z_pP (ci := 11) (k := 5) (C := RX11) (T := TX11) (N := 14) rfl inlX11 (by decide) mw_2_8 (fun _ _ _ _ h9 => h9) tyX11 tyX11_ok nmX11 rfl rfl rfl hf (Or.inl (by decide)) rfl rfl rfl dX11_init_91 (fun s18 es18 hf => ?_)
  exact zb_X11_init_94 hE hf
set_option maxRecDepth 20000 in
theorem le_X11_init_75 {N : Nat} {r : AS}  {l0 : Nat} {t0 : Nat} {t1 : Nat} {s : AS} (hf : f_X11_init_75 N l0 t0 t1 s = some r) : Le s r := by
  unfold f_X11_init_75 at hf
  obtain ⟨v14, -, hf⟩ := ob hf
  obtain ⟨v15, -, hf⟩ := ob hf
  obtain ⟨v16, -, hf⟩ := ob hf
  obtain ⟨v17, ev17, hf⟩ := ob hf
  refine Le.of (t := (s.1, s.2)) rfl ((lm_X5_init ev17).tr ?_)
  exact Le.via (le_X11_init_91 hf) rfl
set_option maxRecDepth 20000 in
theorem zb_X11_init_75 {N : Nat} {r : AS} {E : EV} (hE : TG E none r)   {l0 : Nat} {t0 : Nat} {t1 : Nat} {s : AS} (hf : f_X11_init_75 N l0 t0 t1 s = some r) : Z E yX11_init cX11_init 3 none 3 s 75 [(0, .ref l0)] [.ref t1, .ref t0] := by
  unfold f_X11_init_75 at hf
  refine z_dup dX11_init_75 rfl ?_
  refine z_aload_n 0 dX11_init_76 rfl rfl ?_
  refine z_gP (ci := 11) (k := 1) (C := RX11) (T := TX11) (N := 14) rfl inlX11 (by decide) mw_1_19 (fun _ _ _ _ h9 => h9) hf (by decide) rfl dX11_init_77  (fun v14 hf => ?_)
  refine z_aload_n 0 dX11_init_80 rfl rfl ?_
  refine z_gP (ci := 11) (k := 3) (C := RX11) (T := TX11) (N := 14) rfl inlX11 (by decide) mw_2_0 (fun _ _ _ _ h9 => h9) hf (by decide) rfl dX11_init_81  (fun v15 hf => ?_)
  refine z_aload_n 0 dX11_init_84 rfl rfl ?_
  refine z_gP (ci := 11) (k := 4) (C := RX11) (T := TX11) (N := 14) rfl inlX11 (by decide) mw_2_4 (fun _ _ _ _ h9 => h9) hf (by decide) rfl dX11_init_85  (fun v16 hf => ?_)
  obtain ⟨v17, ev17, hf⟩ := ob hf
  refine z_cI (As := [.ref v14, .ref v15, .ref v16]) (rest := [.ref t1, .ref t0]) (zm_X5_init ev17).2 (Or.inr (tg_le hE (le_X11_init_91 hf))) mw_5_13 mw_5_14 mw_2_7 mw_5_15 rfl yk_X5_init (by decide) (by decide) rfl (Nat.le_of_ble_eq_true rfl) rfl dX11_init_88 ?_
  exact zb_X11_init_91 hE hf
set_option maxRecDepth 20000 in
theorem le_X11_init_71 {N : Nat} {r : AS}  {l0 : Nat} {s : AS} (hf : f_X11_init_71 N l0 s = some r) : Le s r := by
  unfold f_X11_init_71 at hf
  refine Le.of (t := (s.1, s.2)) rfl (le_nObj.tr (u := _) (t := nObj (s.1, s.2) 5) ?_)
  exact Le.via (le_X11_init_75 hf) rfl
set_option maxRecDepth 20000 in
theorem zb_X11_init_71 {N : Nat} {r : AS} {E : EV} (hE : TG E none r)   {l0 : Nat} {s : AS} (hf : f_X11_init_71 N l0 s = some r) : Z E yX11_init cX11_init 3 none 3 s 71 [(0, .ref l0)] [] := by
  unfold f_X11_init_71 at hf
  refine z_aload_n 0 dX11_init_71 rfl rfl ?_
  refine z_newo (ci := 5) (C := RX5) (T := TX5) (N := 13) rfl inlX5 tyX5 tyX5_ok mw_2_5 mw_2_6 mw_2_7 rfl df_5 (tg_le hE (le_X11_init_75 hf)) dX11_init_72 ?_
  exact zb_X11_init_75 hE hf
set_option maxRecDepth 20000 in
theorem le_X11_init_68 {N : Nat} {r : AS}  {l0 : Nat} {t0 : Nat} {t1 : Nat} {s : AS} (hf : f_X11_init_68 N l0 t0 t1 s = some r) : Le s r := by
  unfold f_X11_init_68 at hf
  obtain ⟨s13, es13, hf⟩ := ob hf
  refine Le.of (t := (s.1, s.2)) rfl ((le_pP es13).tr ?_)
  exact Le.via (le_X11_init_71 hf) rfl
set_option maxRecDepth 20000 in
theorem zb_X11_init_68 {N : Nat} {r : AS} {E : EV} (hE : TG E none r)   {l0 : Nat} {t0 : Nat} {t1 : Nat} {s : AS} (hf : f_X11_init_68 N l0 t0 t1 s = some r) : Z E yX11_init cX11_init 3 none 3 s 68 [(0, .ref l0)] [.ref t1, .ref t0] := by
  unfold f_X11_init_68 at hf
  refine z_pP (ci := 11) (k := 4) (C := RX11) (T := TX11) (N := 14) rfl inlX11 (by decide) mw_2_4 (fun _ _ _ _ h9 => h9) tyX11 tyX11_ok nmX11 rfl rfl rfl hf (Or.inl (by decide)) rfl rfl rfl dX11_init_68 (fun s13 es13 hf => ?_)
  exact zb_X11_init_71 hE hf
set_option maxRecDepth 20000 in
theorem le_X11_init_56 {N : Nat} {r : AS}  {l0 : Nat} {t0 : Nat} {t1 : Nat} {s : AS} (hf : f_X11_init_56 N l0 t0 t1 s = some r) : Le s r := by
  unfold f_X11_init_56 at hf
  obtain ⟨v10, -, hf⟩ := ob hf
  obtain ⟨v11, -, hf⟩ := ob hf
  obtain ⟨v12, ev12, hf⟩ := ob hf
  refine Le.of (t := (s.1, s.2)) rfl ((lm_X4_init ev12).tr ?_)
  exact Le.via (le_X11_init_68 hf) rfl
set_option maxRecDepth 20000 in
theorem zb_X11_init_56 {N : Nat} {r : AS} {E : EV} (hE : TG E none r)   {l0 : Nat} {t0 : Nat} {t1 : Nat} {s : AS} (hf : f_X11_init_56 N l0 t0 t1 s = some r) : Z E yX11_init cX11_init 3 none 3 s 56 [(0, .ref l0)] [.ref t1, .ref t0] := by
  unfold f_X11_init_56 at hf
  refine z_dup dX11_init_56 rfl ?_
  refine z_aload_n 0 dX11_init_57 rfl rfl ?_
  refine z_gP (ci := 11) (k := 1) (C := RX11) (T := TX11) (N := 14) rfl inlX11 (by decide) mw_1_19 (fun _ _ _ _ h9 => h9) hf (by decide) rfl dX11_init_58  (fun v10 hf => ?_)
  refine z_aload_n 0 dX11_init_61 rfl rfl ?_
  refine z_gP (ci := 11) (k := 3) (C := RX11) (T := TX11) (N := 14) rfl inlX11 (by decide) mw_2_0 (fun _ _ _ _ h9 => h9) hf (by decide) rfl dX11_init_62  (fun v11 hf => ?_)
  obtain ⟨v12, ev12, hf⟩ := ob hf
  refine z_cI (As := [.ref v10, .ref v11]) (rest := [.ref t1, .ref t0]) (zm_X4_init ev12).2 (Or.inr (tg_le hE (le_X11_init_68 hf))) mw_4_20 mw_4_21 mw_2_3 mw_4_22 rfl yk_X4_init (by decide) (by decide) rfl (Nat.le_of_ble_eq_true rfl) rfl dX11_init_65 ?_
  exact zb_X11_init_68 hE hf
set_option maxRecDepth 20000 in
theorem le_X11_init_52 {N : Nat} {r : AS}  {l0 : Nat} {s : AS} (hf : f_X11_init_52 N l0 s = some r) : Le s r := by
  unfold f_X11_init_52 at hf
  refine Le.of (t := (s.1, s.2)) rfl (le_nObj.tr (u := _) (t := nObj (s.1, s.2) 4) ?_)
  exact Le.via (le_X11_init_56 hf) rfl
set_option maxRecDepth 20000 in
theorem zb_X11_init_52 {N : Nat} {r : AS} {E : EV} (hE : TG E none r)   {l0 : Nat} {s : AS} (hf : f_X11_init_52 N l0 s = some r) : Z E yX11_init cX11_init 3 none 3 s 52 [(0, .ref l0)] [] := by
  unfold f_X11_init_52 at hf
  refine z_aload_n 0 dX11_init_52 rfl rfl ?_
  refine z_newo (ci := 4) (C := RX4) (T := TX4) (N := 12) rfl inlX4 tyX4 tyX4_ok mw_2_1 mw_2_2 mw_2_3 rfl df_4 (tg_le hE (le_X11_init_56 hf)) dX11_init_53 ?_
  exact zb_X11_init_56 hE hf
set_option maxRecDepth 20000 in
theorem le_X11_init_49 {N : Nat} {r : AS}  {l0 : Nat} {t0 : Nat} {t1 : Nat} {s : AS} (hf : f_X11_init_49 N l0 t0 t1 s = some r) : Le s r := by
  unfold f_X11_init_49 at hf
  obtain ⟨s9, es9, hf⟩ := ob hf
  refine Le.of (t := (s.1, s.2)) rfl ((le_pP es9).tr ?_)
  exact Le.via (le_X11_init_52 hf) rfl
set_option maxRecDepth 20000 in
theorem zb_X11_init_49 {N : Nat} {r : AS} {E : EV} (hE : TG E none r)   {l0 : Nat} {t0 : Nat} {t1 : Nat} {s : AS} (hf : f_X11_init_49 N l0 t0 t1 s = some r) : Z E yX11_init cX11_init 3 none 3 s 49 [(0, .ref l0)] [.ref t1, .ref t0] := by
  unfold f_X11_init_49 at hf
  refine z_pP (ci := 11) (k := 3) (C := RX11) (T := TX11) (N := 14) rfl inlX11 (by decide) mw_2_0 (fun _ _ _ _ h9 => h9) tyX11 tyX11_ok nmX11 rfl rfl rfl hf (Or.inl (by decide)) rfl rfl rfl dX11_init_49 (fun s9 es9 hf => ?_)
  exact zb_X11_init_52 hE hf
set_option maxRecDepth 20000 in
theorem le_X11_init_41 {N : Nat} {r : AS}  {l0 : Nat} {t0 : Nat} {t1 : Nat} {s : AS} (hf : f_X11_init_41 N l0 t0 t1 s = some r) : Le s r := by
  unfold f_X11_init_41 at hf
  obtain ⟨v7, -, hf⟩ := ob hf
  obtain ⟨v8, ev8, hf⟩ := ob hf
  refine Le.of (t := (s.1, s.2)) rfl ((lm_X10_init ev8).tr ?_)
  exact Le.via (le_X11_init_49 hf) rfl
set_option maxRecDepth 20000 in
theorem zb_X11_init_41 {N : Nat} {r : AS} {E : EV} (hE : TG E none r)   {l0 : Nat} {t0 : Nat} {t1 : Nat} {s : AS} (hf : f_X11_init_41 N l0 t0 t1 s = some r) : Z E yX11_init cX11_init 3 none 3 s 41 [(0, .ref l0)] [.ref t1, .ref t0] := by
  unfold f_X11_init_41 at hf
  refine z_dup dX11_init_41 rfl ?_
  refine z_aload_n 0 dX11_init_42 rfl rfl ?_
  refine z_gP (ci := 11) (k := 1) (C := RX11) (T := TX11) (N := 14) rfl inlX11 (by decide) mw_1_19 (fun _ _ _ _ h9 => h9) hf (by decide) rfl dX11_init_43  (fun v7 hf => ?_)
  obtain ⟨v8, ev8, hf⟩ := ob hf
  refine z_cI (As := [.ref v7]) (rest := [.ref t1, .ref t0]) (zm_X10_init ev8).2 (Or.inr (tg_le hE (le_X11_init_49 hf))) mw_4_9 mw_4_10 mw_1_23 mw_4_11 rfl yk_X10_init (by decide) (by decide) rfl (Nat.le_of_ble_eq_true rfl) rfl dX11_init_46 ?_
  exact zb_X11_init_49 hE hf
set_option maxRecDepth 20000 in
theorem le_X11_init_37 {N : Nat} {r : AS}  {l0 : Nat} {s : AS} (hf : f_X11_init_37 N l0 s = some r) : Le s r := by
  unfold f_X11_init_37 at hf
  refine Le.of (t := (s.1, s.2)) rfl (le_nObj.tr (u := _) (t := nObj (s.1, s.2) 10) ?_)
  exact Le.via (le_X11_init_41 hf) rfl
set_option maxRecDepth 20000 in
theorem zb_X11_init_37 {N : Nat} {r : AS} {E : EV} (hE : TG E none r)   {l0 : Nat} {s : AS} (hf : f_X11_init_37 N l0 s = some r) : Z E yX11_init cX11_init 3 none 3 s 37 [(0, .ref l0)] [] := by
  unfold f_X11_init_37 at hf
  refine z_aload_n 0 dX11_init_37 rfl rfl ?_
  refine z_newo (ci := 10) (C := RX10) (T := TX10) (N := 6) rfl inlX10 tyX10 tyX10_ok mw_1_21 mw_1_22 mw_1_23 rfl df_10 (tg_le hE (le_X11_init_41 hf)) dX11_init_38 ?_
  exact zb_X11_init_41 hE hf
set_option maxRecDepth 20000 in
theorem le_X11_init_34 {N : Nat} {r : AS}  {l0 : Nat} {t0 : Nat} {t1 : Nat} {s : AS} (hf : f_X11_init_34 N l0 t0 t1 s = some r) : Le s r := by
  unfold f_X11_init_34 at hf
  obtain ⟨s6, es6, hf⟩ := ob hf
  refine Le.of (t := (s.1, s.2)) rfl ((le_pP es6).tr ?_)
  exact Le.via (le_X11_init_37 hf) rfl
set_option maxRecDepth 20000 in
theorem zb_X11_init_34 {N : Nat} {r : AS} {E : EV} (hE : TG E none r)   {l0 : Nat} {t0 : Nat} {t1 : Nat} {s : AS} (hf : f_X11_init_34 N l0 t0 t1 s = some r) : Z E yX11_init cX11_init 3 none 3 s 34 [(0, .ref l0)] [.ref t1, .ref t0] := by
  unfold f_X11_init_34 at hf
  refine z_pP (ci := 11) (k := 2) (C := RX11) (T := TX11) (N := 14) rfl inlX11 (by decide) mw_1_20 (fun _ _ _ _ h9 => h9) tyX11 tyX11_ok nmX11 rfl rfl rfl hf (Or.inl (by decide)) rfl rfl rfl dX11_init_34 (fun s6 es6 hf => ?_)
  exact zb_X11_init_37 hE hf
set_option maxRecDepth 20000 in
theorem le_X11_init_30 {N : Nat} {r : AS}  {l0 : Nat} {t0 : Nat} {t1 : Nat} {s : AS} (hf : f_X11_init_30 N l0 t0 t1 s = some r) : Le s r := by
  unfold f_X11_init_30 at hf
  obtain ⟨v5, ev5, hf⟩ := ob hf
  refine Le.of (t := (s.1, s.2)) rfl ((lm_X1_init ev5).tr ?_)
  exact Le.via (le_X11_init_34 hf) rfl
set_option maxRecDepth 20000 in
theorem zb_X11_init_30 {N : Nat} {r : AS} {E : EV} (hE : TG E none r)   {l0 : Nat} {t0 : Nat} {t1 : Nat} {s : AS} (hf : f_X11_init_30 N l0 t0 t1 s = some r) : Z E yX11_init cX11_init 3 none 3 s 30 [(0, .ref l0)] [.ref t1, .ref t0] := by
  unfold f_X11_init_30 at hf
  refine z_dup dX11_init_30 rfl ?_
  obtain ⟨v5, ev5, hf⟩ := ob hf
  refine z_cI (As := []) (rest := [.ref t1, .ref t0]) (zm_X1_init ev5).2 (Or.inr (tg_le hE (le_X11_init_34 hf))) mw_3_6 mw_3_7 mw_1_18 mw_3_8 rfl yk_X1_init (by decide) (by decide) rfl (Nat.le_of_ble_eq_true rfl) rfl dX11_init_31 ?_
  exact zb_X11_init_34 hE hf
set_option maxRecDepth 20000 in
theorem le_X11_init_26 {N : Nat} {r : AS}  {l0 : Nat} {s : AS} (hf : f_X11_init_26 N l0 s = some r) : Le s r := by
  unfold f_X11_init_26 at hf
  refine Le.of (t := (s.1, s.2)) rfl (le_nObj.tr (u := _) (t := nObj (s.1, s.2) 1) ?_)
  exact Le.via (le_X11_init_30 hf) rfl
set_option maxRecDepth 20000 in
theorem zb_X11_init_26 {N : Nat} {r : AS} {E : EV} (hE : TG E none r)   {l0 : Nat} {s : AS} (hf : f_X11_init_26 N l0 s = some r) : Z E yX11_init cX11_init 3 none 3 s 26 [(0, .ref l0)] [] := by
  unfold f_X11_init_26 at hf
  refine z_aload_n 0 dX11_init_26 rfl rfl ?_
  refine z_newo (ci := 1) (C := RX1) (T := TX1) (N := 8) rfl inlX1 tyX1 tyX1_ok mw_1_16 mw_1_17 mw_1_18 rfl df_1 (tg_le hE (le_X11_init_30 hf)) dX11_init_27 ?_
  exact zb_X11_init_30 hE hf
set_option maxRecDepth 20000 in
theorem le_X11_init_23 {N : Nat} {r : AS}  {l0 : Nat} {t0 : Nat} {t1 : Nat} {s : AS} (hf : f_X11_init_23 N l0 t0 t1 s = some r) : Le s r := by
  unfold f_X11_init_23 at hf
  obtain ⟨s4, es4, hf⟩ := ob hf
  refine Le.of (t := (s.1, s.2)) rfl ((le_pP es4).tr ?_)
  exact Le.via (le_X11_init_26 hf) rfl
set_option maxRecDepth 20000 in
theorem zb_X11_init_23 {N : Nat} {r : AS} {E : EV} (hE : TG E none r)   {l0 : Nat} {t0 : Nat} {t1 : Nat} {s : AS} (hf : f_X11_init_23 N l0 t0 t1 s = some r) : Z E yX11_init cX11_init 3 none 3 s 23 [(0, .ref l0)] [.ref t1, .ref t0] := by
  unfold f_X11_init_23 at hf
  refine z_pP (ci := 11) (k := 1) (C := RX11) (T := TX11) (N := 14) rfl inlX11 (by decide) mw_1_19 (fun _ _ _ _ h9 => h9) tyX11 tyX11_ok nmX11 rfl rfl rfl hf (Or.inl (by decide)) rfl rfl rfl dX11_init_23 (fun s4 es4 hf => ?_)
  exact zb_X11_init_26 hE hf
set_option maxRecDepth 20000 in
theorem le_X11_init_19 {N : Nat} {r : AS}  {l0 : Nat} {t0 : Nat} {t1 : Nat} {s : AS} (hf : f_X11_init_19 N l0 t0 t1 s = some r) : Le s r := by
  unfold f_X11_init_19 at hf
  obtain ⟨v3, ev3, hf⟩ := ob hf
  refine Le.of (t := (s.1, s.2)) rfl ((lm_X1_init ev3).tr ?_)
  exact Le.via (le_X11_init_23 hf) rfl
set_option maxRecDepth 20000 in
theorem zb_X11_init_19 {N : Nat} {r : AS} {E : EV} (hE : TG E none r)   {l0 : Nat} {t0 : Nat} {t1 : Nat} {s : AS} (hf : f_X11_init_19 N l0 t0 t1 s = some r) : Z E yX11_init cX11_init 3 none 3 s 19 [(0, .ref l0)] [.ref t1, .ref t0] := by
  unfold f_X11_init_19 at hf
  refine z_dup dX11_init_19 rfl ?_
  obtain ⟨v3, ev3, hf⟩ := ob hf
  refine z_cI (As := []) (rest := [.ref t1, .ref t0]) (zm_X1_init ev3).2 (Or.inr (tg_le hE (le_X11_init_23 hf))) mw_3_6 mw_3_7 mw_1_18 mw_3_8 rfl yk_X1_init (by decide) (by decide) rfl (Nat.le_of_ble_eq_true rfl) rfl dX11_init_20 ?_
  exact zb_X11_init_23 hE hf
set_option maxRecDepth 20000 in
theorem le_X11_init_15 {N : Nat} {r : AS}  {l0 : Nat} {s : AS} (hf : f_X11_init_15 N l0 s = some r) : Le s r := by
  unfold f_X11_init_15 at hf
  refine Le.of (t := (s.1, s.2)) rfl (le_nObj.tr (u := _) (t := nObj (s.1, s.2) 1) ?_)
  exact Le.via (le_X11_init_19 hf) rfl
set_option maxRecDepth 20000 in
theorem zb_X11_init_15 {N : Nat} {r : AS} {E : EV} (hE : TG E none r)   {l0 : Nat} {s : AS} (hf : f_X11_init_15 N l0 s = some r) : Z E yX11_init cX11_init 3 none 3 s 15 [(0, .ref l0)] [] := by
  unfold f_X11_init_15 at hf
  refine z_aload_n 0 dX11_init_15 rfl rfl ?_
  refine z_newo (ci := 1) (C := RX1) (T := TX1) (N := 8) rfl inlX1 tyX1 tyX1_ok mw_1_16 mw_1_17 mw_1_18 rfl df_1 (tg_le hE (le_X11_init_19 hf)) dX11_init_16 ?_
  exact zb_X11_init_19 hE hf
set_option maxRecDepth 20000 in
theorem le_X11_init_12 {N : Nat} {r : AS}  {l0 : Nat} {t0 : Nat} {t1 : Nat} {s : AS} (hf : f_X11_init_12 N l0 t0 t1 s = some r) : Le s r := by
  unfold f_X11_init_12 at hf
  obtain ⟨s2, es2, hf⟩ := ob hf
  refine Le.of (t := (s.1, s.2)) rfl ((le_pP es2).tr ?_)
  exact Le.via (le_X11_init_15 hf) rfl
set_option maxRecDepth 20000 in
theorem zb_X11_init_12 {N : Nat} {r : AS} {E : EV} (hE : TG E none r)   {l0 : Nat} {t0 : Nat} {t1 : Nat} {s : AS} (hf : f_X11_init_12 N l0 t0 t1 s = some r) : Z E yX11_init cX11_init 3 none 3 s 12 [(0, .ref l0)] [.ref t1, .ref t0] := by
  unfold f_X11_init_12 at hf
  refine z_pP (ci := 11) (k := 0) (C := RX11) (T := TX11) (N := 14) rfl inlX11 (by decide) mw_1_15 (fun _ _ _ _ h9 => h9) tyX11 tyX11_ok nmX11 rfl rfl rfl hf (Or.inl (by decide)) rfl rfl rfl dX11_init_12 (fun s2 es2 hf => ?_)
  exact zb_X11_init_15 hE hf
set_option maxRecDepth 20000 in
theorem le_X11_init_8 {N : Nat} {r : AS}  {l0 : Nat} {t0 : Nat} {t1 : Nat} {s : AS} (hf : f_X11_init_8 N l0 t0 t1 s = some r) : Le s r := by
  unfold f_X11_init_8 at hf
  obtain ⟨v1, ev1, hf⟩ := ob hf
  refine Le.of (t := (s.1, s.2)) rfl ((lm_X2_init ev1).tr ?_)
  exact Le.via (le_X11_init_12 hf) rfl
set_option maxRecDepth 20000 in
theorem zb_X11_init_8 {N : Nat} {r : AS} {E : EV} (hE : TG E none r)   {l0 : Nat} {t0 : Nat} {t1 : Nat} {s : AS} (hf : f_X11_init_8 N l0 t0 t1 s = some r) : Z E yX11_init cX11_init 3 none 3 s 8 [(0, .ref l0)] [.ref t1, .ref t0] := by
  unfold f_X11_init_8 at hf
  refine z_dup dX11_init_8 rfl ?_
  obtain ⟨v1, ev1, hf⟩ := ob hf
  refine z_cIN (As := []) (rest := [.ref t1, .ref t0]) (zm_X2_init ev1).2 (Or.inr (tg_le hE (le_X11_init_12 hf))) (fun _ _ hK => hK.2.2.2.1) mw_2_23 mw_1_14 mw_3_0 rfl yk_X2_init (by decide) (by decide) rfl (Nat.le_of_ble_eq_true rfl) rfl dX11_init_9 ?_
  exact zb_X11_init_12 hE hf
set_option maxRecDepth 20000 in
theorem lm_X11_init {N : Nat} {s : AS} {l0 : Nat} {r : AS} (hf : f_X11_init N l0 s = some r) : Le s r := by
  unfold f_X11_init at hf
  refine ite_c hf (fun hf => ?_) (fun hf => ?_)
  · skip
    refine Le.of (t := (s.1, s.2)) rfl (le_nObj.tr (u := _) (t := nObj (s.1, s.2) 2) ?_)
    exact Le.via (le_X11_init_8 hf) rfl
  · cases hf
set_option maxRecDepth 20000 in
theorem zm_X11_init {N : Nat} {s : AS} {l0 : Nat} {r : AS} (hf : f_X11_init N l0 s = some r) : isO s.1 l0 11 ∧ ∀ (l : Launch) (G : GG), Mt l G yX11_init cX11_init 3 none 3 [.ref l0] s none r := by
  have hf0 := hf
  unfold f_X11_init at hf
  refine ite_d hf (fun hO hf => ?_) (fun _ hf => ?_)
  · refine ⟨hO, fun l G => mt_of (Or.inl (by decide)) (Nat.le_of_ble_eq_true rfl) (lm_X11_init hf0) (fun E hE => ?_)⟩
    show Z E yX11_init cX11_init 3 none 3 s 0 [(0, .ref l0)] []
    refine z_aload_n 0 dX11_init_0 rfl rfl ?_
    refine z_objInit mw_1_9 mw_1_10 mw_1_11 (by decide) (Nat.le_of_ble_eq_true rfl) dX11_init_1 ?_
    refine z_aload_n 0 dX11_init_4 rfl rfl ?_
    refine z_newo (ci := 2) (C := RX2) (T := TX2) (N := 4) rfl inlX2 tyX2 tyX2_ok mw_1_12 mw_1_13 mw_1_14 rfl df_2 (tg_le hE (le_X11_init_8 hf)) dX11_init_5 ?_
    exact zb_X11_init_8 hE hf
  · cases hf
set_option maxRecDepth 20000 in
theorem zb_X1_sidesDue_25 {N : Nat} {sh : Sh} {d : Dt} {r : Int32} {E : EV} (hE : TG E (some (.int r)) (sh, d))  {t0 : Int32} (hf : f_X1_sidesDue_25 N sh t0 d = some r) : Z E yX1_sidesDue cX1_sidesDue 2 (some .int) 2 (sh, d) 25 [] [.int t0] := by
  unfold f_X1_sidesDue_25 at hf
  cases hf
  exact z_ireturn hE rfl dX1_sidesDue_25
set_option maxRecDepth 20000 in
theorem zm_X1_sidesDue {N : Nat} {sh : Sh} {d : Dt} {l0 : Nat} {l1 : Int32} {r : Int32} (hf : f_X1_sidesDue N sh l0 l1 d = some r) : isO sh l0 1 ∧ ∀ (l : Launch) (G : GG), Mt l G yX1_sidesDue cX1_sidesDue 2 (some .int) 2 [.ref l0, .int l1] (sh, d) (some (.int r)) (sh, d) := by
  have hf0 := hf
  unfold f_X1_sidesDue at hf
  refine ite_d hf (fun hO hf => ?_) (fun _ hf => ?_)
  · refine ⟨hO, fun l G => mt_of (Or.inl (by decide)) (Nat.le_of_ble_eq_true rfl) Le.rf (fun E hE => ?_)⟩
    show Z E yX1_sidesDue cX1_sidesDue 2 (some .int) 2 (sh, d) 0 [(0, .ref l0), (1, .int l1)] []
    refine z_aload_n 0 dX1_sidesDue_0 rfl rfl ?_
    refine z_gP (ci := 1) (k := 1) (C := RX1) (T := TX1) (N := 8) rfl inlX1 (by decide) mw_3_14 (fun _ _ _ _ h9 => h9) hf (by decide) rfl dX1_sidesDue_1  (fun v1 hf => ?_)
    refine z_iload_n 1 dX1_sidesDue_4 rfl rfl ?_
    refine z_iconst 4 4 dX1_sidesDue_5 (by decide) ?_
    obtain ⟨v2, ev2, hf⟩ := ob hf
    refine z_cVi (ci := 8) (T := TX8) (N := 2) (As := [.int l1, .int (4 : Int32)]) (rest := []) (zm_X8_get ev2).2 (zm_X8_get ev2).1 (by decide) rfl (Or.inl rfl) mw_10_10 mw_10_11 mw_10_12 mw_3_13 mw_10_13 yk_X8_get (by decide) (by decide) rfl (Nat.le_of_ble_eq_true rfl) rfl dX1_sidesDue_6 ?_
    refine z_if_ne 24 hf dX1_sidesDue_9 (by decide) (fun hf => ?_) (fun hf => ?_)
    · refine z_iconst 0 0 dX1_sidesDue_24 (by decide) ?_
      refine z_lv [] [] rfl ?_
      exact zb_X1_sidesDue_25 hE hf
    · refine z_aload_n 0 dX1_sidesDue_12 rfl rfl ?_
      refine z_gP (ci := 1) (k := 1) (C := RX1) (T := TX1) (N := 8) rfl inlX1 (by decide) mw_3_14 (fun _ _ _ _ h9 => h9) hf (by decide) rfl dX1_sidesDue_13  (fun v3 hf => ?_)
      refine z_iload_n 1 dX1_sidesDue_16 rfl rfl ?_
      refine z_iconst 3 3 dX1_sidesDue_17 (by decide) ?_
      obtain ⟨v4, ev4, hf⟩ := ob hf
      refine z_cVi (ci := 8) (T := TX8) (N := 2) (As := [.int l1, .int (3 : Int32)]) (rest := []) (zm_X8_get ev4).2 (zm_X8_get ev4).1 (by decide) rfl (Or.inl rfl) mw_10_10 mw_10_11 mw_10_12 mw_3_13 mw_10_13 yk_X8_get (by decide) (by decide) rfl (Nat.le_of_ble_eq_true rfl) rfl dX1_sidesDue_18 ?_
      refine z_goto 25 dX1_sidesDue_21 (by decide) ?_
      refine z_lv [] [] rfl ?_
      exact zb_X1_sidesDue_25 hE hf
  · cases hf
set_option maxRecDepth 20000 in
theorem zb_X4_oddBits_72 {N : Nat} {sh : Sh} {d : Dt} {r : Int64} {E : EV} (hE : TG E (some (.long r)) (sh, d))  {l1 : Int64} (hf : f_X4_oddBits_72 N sh l1 d = some r) : Z E yX4_oddBits cX4_oddBits 4 (some .long) 3 (sh, d) 72 [(1, .long l1)] [] := by
  unfold f_X4_oddBits_72 at hf
  refine z_lload_n 0 dX4_oddBits_72 rfl rfl ?_
  cases hf
  exact z_lreturn hE rfl dX4_oddBits_73
set_option maxRecDepth 20000 in
theorem zb_X4_oddBits_66 {N : Nat} {sh : Sh} {d : Dt} {k4 : Nat → Int64 → Int32 → Option Int64} {r : Int64} {E : EV} (hE : TG E (some (.long r)) (sh, d)) (hk4 : ∀ (l0 : Nat) (l1 : Int64) (l3 : Int32), k4 l0 l1 l3 = some r → Z E yX4_oddBits cX4_oddBits 4 (some .long) 3 (sh, d) 4 [(0, .ref l0), (1, .long l1), (3, .int l3)] []) {l0 : Nat} {l1 : Int64} {l3 : Int32} (hf : f_X4_oddBits_66 N sh k4 l0 l1 l3 d = some r) : Z E yX4_oddBits cX4_oddBits 4 (some .long) 3 (sh, d) 66 [(0, .ref l0), (1, .long l1), (3, .int l3)] [] := by
  unfold f_X4_oddBits_66 at hf
  refine z_iinc [(3, .int (l3 + 1)), (0, .ref l0), (1, .long l1)] 2 (l3 + 1) dX4_oddBits_66 rfl rfl (by decide) rfl ?_
  refine z_goto 4 dX4_oddBits_69 (by decide) ?_
  refine z_lv [(0, .ref l0), (1, .long l1), (3, .int (l3 + 1))] [1, 2, 0] rfl ?_
  exact hk4 _ _ _ hf
set_option maxRecDepth 20000 in
theorem zg_X4_oddBits_4 {N : Nat} {sh : Sh} {d : Dt} {r : Int64} {k4 : Nat → Int64 → Int32 → Option Int64} {E : EV} (hE : TG E (some (.long r)) (sh, d))  (hk4 : ∀ (l0 : Nat) (l1 : Int64) (l3 : Int32), k4 l0 l1 l3 = some r → Z E yX4_oddBits cX4_oddBits 4 (some .long) 3 (sh, d) 4 [(0, .ref l0), (1, .long l1), (3, .int l3)] []) {l0 : Nat} {l1 : Int64} {l3 : Int32} (hf : g_X4_oddBits_4 N sh k4 l0 l1 l3 d = some r) : Z E yX4_oddBits cX4_oddBits 4 (some .long) 3 (sh, d) 4 [(0, .ref l0), (1, .long l1), (3, .int l3)] [] := by
  unfold g_X4_oddBits_4 at hf
  refine z_iload_n 2 dX4_oddBits_4 rfl rfl ?_
  refine z_aload_n 0 dX4_oddBits_5 rfl rfl ?_
  refine z_gP (ci := 4) (k := 0) (C := RX4) (T := TX4) (N := 12) rfl inlX4 (by decide) mw_5_11 (fun _ _ _ _ h9 => h9) hf (by decide) rfl dX4_oddBits_6  (fun v1 hf => ?_)
  refine z_gP (ci := 1) (k := 1) (C := RX1) (T := TX1) (N := 8) rfl inlX1 (by decide) mw_39_17 (fun _ _ _ _ h9 => h9) hf (by decide) rfl dX4_oddBits_9  (fun v2 hf => ?_)
  refine z_gI (ci := 8) (k := 1) (C := RX8) (T := TX8) (N := 2) rfl inlX8 (by decide) mw_39_18 (fun _ _ _ _ h9 => h9) hf (by decide) rfl dX4_oddBits_12  (fun v3 hf => ?_)
  refine z_icmp_ge 72 hf dX4_oddBits_15 (by decide) (fun hf => ?_) (fun hf => ?_)
  · refine z_lv [(1, .long l1)] [1] rfl ?_
    exact zb_X4_oddBits_72 hE hf
  · refine z_aload_n 0 dX4_oddBits_18 rfl rfl ?_
    refine z_gP (ci := 4) (k := 0) (C := RX4) (T := TX4) (N := 12) rfl inlX4 (by decide) mw_5_11 (fun _ _ _ _ h9 => h9) hf (by decide) rfl dX4_oddBits_19  (fun v4 hf => ?_)
    refine z_iload_n 2 dX4_oddBits_22 rfl rfl ?_
    obtain ⟨v5, ev5, hf⟩ := ob hf
    refine z_cVi (ci := 1) (T := TX1) (N := 8) (As := [.int l3]) (rest := []) (zm_X1_sidesDue ev5).2 (zm_X1_sidesDue ev5).1 (by decide) rfl (Or.inl rfl) mw_39_19 mw_39_20 mw_39_21 mw_1_18 mw_39_22 yk_X1_sidesDue (by decide) (by decide) rfl (Nat.le_of_ble_eq_true rfl) rfl dX4_oddBits_23 ?_
    refine z_iconst 1 1 dX4_oddBits_26 (by decide) ?_
    refine z_icmp_ne 66 hf dX4_oddBits_27 (by decide) (fun hf => ?_) (fun hf => ?_)
    · exact zb_X4_oddBits_66 hE hk4 hf
    · refine z_lload_n 1 dX4_oddBits_30 rfl rfl ?_
      refine z_lconst 1 1 dX4_oddBits_31 (by decide) ?_
      refine z_aload_n 0 dX4_oddBits_32 rfl rfl ?_
      refine z_gP (ci := 4) (k := 0) (C := RX4) (T := TX4) (N := 12) rfl inlX4 (by decide) mw_5_11 (fun _ _ _ _ h9 => h9) hf (by decide) rfl dX4_oddBits_33  (fun v6 hf => ?_)
      refine z_gP (ci := 1) (k := 1) (C := RX1) (T := TX1) (N := 8) rfl inlX1 (by decide) mw_39_17 (fun _ _ _ _ h9 => h9) hf (by decide) rfl dX4_oddBits_36  (fun v7 hf => ?_)
      refine z_iload_n 2 dX4_oddBits_39 rfl rfl ?_
      refine z_bipush 7 7 dX4_oddBits_40 (by decide) ?_
      obtain ⟨v8, ev8, hf⟩ := ob hf
      refine z_cVi (ci := 8) (T := TX8) (N := 2) (As := [.int l3, .int (7 : Int32)]) (rest := [.long (1 : Int64), .long l1]) (zm_X8_get ev8).2 (zm_X8_get ev8).1 (by decide) rfl (Or.inl rfl) mw_39_23 mw_10_11 mw_10_12 mw_3_13 mw_10_13 yk_X8_get (by decide) (by decide) rfl (Nat.le_of_ble_eq_true rfl) rfl dX4_oddBits_42 ?_
      refine z_lshl dX4_oddBits_45 ?_
      refine z_lxor dX4_oddBits_46 ?_
      refine z_lstore_n [(1, .long (l1 ^^^ ((1 : Int64) <<< (v8.toInt64 &&& 63)))), (0, .ref l0), (3, .int l3)] dX4_oddBits_47 rfl (by decide) rfl ?_
      refine z_lload_n 0 dX4_oddBits_48 rfl rfl ?_
      refine z_lconst 1 1 dX4_oddBits_49 (by decide) ?_
      refine z_aload_n 1 dX4_oddBits_50 rfl rfl ?_
      refine z_gP (ci := 4) (k := 0) (C := RX4) (T := TX4) (N := 12) rfl inlX4 (by decide) mw_5_11 (fun _ _ _ _ h9 => h9) hf (by decide) rfl dX4_oddBits_51  (fun v9 hf => ?_)
      refine z_gP (ci := 1) (k := 1) (C := RX1) (T := TX1) (N := 8) rfl inlX1 (by decide) mw_39_17 (fun _ _ _ _ h9 => h9) hf (by decide) rfl dX4_oddBits_54  (fun v10 hf => ?_)
      refine z_iload_n 2 dX4_oddBits_57 rfl rfl ?_
      refine z_bipush 8 8 dX4_oddBits_58 (by decide) ?_
      obtain ⟨v11, ev11, hf⟩ := ob hf
      refine z_cVi (ci := 8) (T := TX8) (N := 2) (As := [.int l3, .int (8 : Int32)]) (rest := [.long (1 : Int64), .long (l1 ^^^ ((1 : Int64) <<< (v8.toInt64 &&& 63)))]) (zm_X8_get ev11).2 (zm_X8_get ev11).1 (by decide) rfl (Or.inl rfl) mw_39_23 mw_10_11 mw_10_12 mw_3_13 mw_10_13 yk_X8_get (by decide) (by decide) rfl (Nat.le_of_ble_eq_true rfl) rfl dX4_oddBits_60 ?_
      refine z_lshl dX4_oddBits_63 ?_
      refine z_lxor dX4_oddBits_64 ?_
      refine z_lstore_n [(1, .long ((l1 ^^^ ((1 : Int64) <<< (v8.toInt64 &&& 63))) ^^^ ((1 : Int64) <<< (v11.toInt64 &&& 63)))), (0, .ref l0), (3, .int l3)] dX4_oddBits_65 rfl (by decide) rfl ?_
      refine z_lv [(0, .ref l0), (1, .long ((l1 ^^^ ((1 : Int64) <<< (v8.toInt64 &&& 63))) ^^^ ((1 : Int64) <<< (v11.toInt64 &&& 63)))), (3, .int l3)] [1, 0, 2] rfl ?_
      exact zb_X4_oddBits_66 hE hk4 hf
set_option maxRecDepth 20000 in
theorem zb_X4_oddBits_4 {N : Nat} {sh : Sh} {d : Dt} {r : Int64} {E : EV} (hE : TG E (some (.long r)) (sh, d))  : ∀ (n : Nat) (l0 : Nat) (l1 : Int64) (l3 : Int32), f_X4_oddBits_4 N sh d n l0 l1 l3 = some r → Z E yX4_oddBits cX4_oddBits 4 (some .long) 3 (sh, d) 4 [(0, .ref l0), (1, .long l1), (3, .int l3)] [] := by
  intro n
  induction n with
  | zero => intro l0 l1 l3 hf; cases hf
  | succ n ih => intro l0 l1 l3 hf; exact zg_X4_oddBits_4 hE ih hf
set_option maxRecDepth 20000 in
theorem zm_X4_oddBits {N : Nat} {sh : Sh} {d : Dt} {l0 : Nat} {r : Int64} (hf : f_X4_oddBits N sh l0 d = some r) : isO sh l0 4 ∧ ∀ (l : Launch) (G : GG), Mt l G yX4_oddBits cX4_oddBits 4 (some .long) 3 [.ref l0] (sh, d) (some (.long r)) (sh, d) := by
  have hf0 := hf
  unfold f_X4_oddBits at hf
  refine ite_d hf (fun hO hf => ?_) (fun _ hf => ?_)
  · refine ⟨hO, fun l G => mt_of (Or.inl (by decide)) (Nat.le_of_ble_eq_true rfl) Le.rf (fun E hE => ?_)⟩
    show Z E yX4_oddBits cX4_oddBits 4 (some .long) 3 (sh, d) 0 [(0, .ref l0)] []
    refine z_lconst 0 0 dX4_oddBits_0 (by decide) ?_
    refine z_lstore_n [(1, .long (0 : Int64)), (0, .ref l0)] dX4_oddBits_1 rfl (by decide) rfl ?_
    refine z_iconst 0 0 dX4_oddBits_2 (by decide) ?_
    refine z_istore_n [(3, .int (0 : Int32)), (1, .long (0 : Int64)), (0, .ref l0)] dX4_oddBits_3 rfl (by decide) rfl ?_
    refine z_lv [(0, .ref l0), (1, .long (0 : Int64)), (3, .int (0 : Int32))] [2, 1, 0] rfl ?_
    exact zb_X4_oddBits_4 hE N _ _ _ hf
  · cases hf
set_option maxRecDepth 20000 in
theorem zb_X4_list_66 {N : Nat} {sh : Sh} {r : Int32 × Dt} {E : EV} (hE : TG E (some (.int r.1)) (sh, r.2))  {l0 : Nat} {d : Dt} (hf : f_X4_list_66 N sh l0 d = some r) : Z E yX4_list cX4_list 4 (some .int) 4 (sh, d) 66 [(0, .ref l0)] [] := by
  unfold f_X4_list_66 at hf
  refine z_aload_n 0 dX4_list_66 rfl rfl ?_
  refine z_iconst 1 1 dX4_list_67 (by decide) ?_
  refine z_pI (ci := 4) (k := 4) (C := RX4) (T := TX4) (N := 12) rfl inlX4 (by decide) mw_5_2 (fun _ _ _ _ h9 => h9) tyX4 tyX4_ok nmX4 rfl hf (Or.inl (by decide)) rfl rfl rfl dX4_list_68  (fun d10 hf => ?_)
  refine z_aload_n 0 dX4_list_71 rfl rfl ?_
  refine z_gI (ci := 4) (k := 3) (C := RX4) (T := TX4) (N := 12) rfl inlX4 (by decide) mw_5_1 (fun _ _ _ _ h9 => h9) hf (by decide) rfl dX4_list_72  (fun v11 hf => ?_)
  cases hf
  exact z_ireturn hE rfl dX4_list_75
set_option maxRecDepth 20000 in
theorem zb_X4_list_60 {N : Nat} {sh : Sh} {k24 : Nat → Int64 → Int32 → Dt → Option (Int32 × Dt)} {r : Int32 × Dt} {E : EV} (hE : TG E (some (.int r.1)) (sh, r.2)) (hk24 : ∀ (l0 : Nat) (l1 : Int64) (l3 : Int32) (d : Dt), k24 l0 l1 l3 d = some r → Z E yX4_list cX4_list 4 (some .int) 4 (sh, d) 24 [(0, .ref l0), (1, .long l1), (3, .int l3)] []) {l0 : Nat} {l1 : Int64} {l3 : Int32} {d : Dt} (hf : f_X4_list_60 N sh k24 l0 l1 l3 d = some r) : Z E yX4_list cX4_list 4 (some .int) 4 (sh, d) 60 [(0, .ref l0), (1, .long l1), (3, .int l3)] [] := by
  unfold f_X4_list_60 at hf
  refine z_iinc [(3, .int (l3 + 1)), (0, .ref l0), (1, .long l1)] 2 (l3 + 1) dX4_list_60 rfl rfl (by decide) rfl ?_
  refine z_goto 24 dX4_list_63 (by decide) ?_
  refine z_lv [(0, .ref l0), (1, .long l1), (3, .int (l3 + 1))] [1, 2, 0] rfl ?_
  exact hk24 _ _ _ _ hf
set_option maxRecDepth 20000 in
theorem zg_X4_list_24 {N : Nat} {sh : Sh} {r : Int32 × Dt} {k24 : Nat → Int64 → Int32 → Dt → Option (Int32 × Dt)} {E : EV} (hE : TG E (some (.int r.1)) (sh, r.2))  (hk24 : ∀ (l0 : Nat) (l1 : Int64) (l3 : Int32) (d : Dt), k24 l0 l1 l3 d = some r → Z E yX4_list cX4_list 4 (some .int) 4 (sh, d) 24 [(0, .ref l0), (1, .long l1), (3, .int l3)] []) {l0 : Nat} {l1 : Int64} {l3 : Int32} {d : Dt} (hf : g_X4_list_24 N sh k24 l0 l1 l3 d = some r) : Z E yX4_list cX4_list 4 (some .int) 4 (sh, d) 24 [(0, .ref l0), (1, .long l1), (3, .int l3)] [] := by
  unfold g_X4_list_24 at hf
  refine z_iload_n 2 dX4_list_24 rfl rfl ?_
  refine z_bipush 60 60 dX4_list_25 (by decide) ?_
  refine z_icmp_ge 66 hf dX4_list_27 (by decide) (fun hf => ?_) (fun hf => ?_)
  · refine z_lv [(0, .ref l0)] [0] rfl ?_
    exact zb_X4_list_66 hE hf
  · refine z_lload_n 1 dX4_list_30 rfl rfl ?_
    refine z_iload_n 2 dX4_list_31 rfl rfl ?_
    refine z_lshr dX4_list_32 ?_
    refine z_lconst 1 1 dX4_list_33 (by decide) ?_
    refine z_land dX4_list_34 ?_
    refine z_lconst 1 1 dX4_list_35 (by decide) ?_
    refine z_lcmp dX4_list_36 ?_
    refine z_if_ne 60 hf dX4_list_37 (by decide) (fun hf => ?_) (fun hf => ?_)
    · exact zb_X4_list_60 hE hk24 hf
    · refine z_aload_n 0 dX4_list_40 rfl rfl ?_
      refine z_gP (ci := 4) (k := 2) (C := RX4) (T := TX4) (N := 12) rfl inlX4 (by decide) mw_5_0 (fun _ _ _ _ h9 => h9) hf (by decide) rfl dX4_list_41  (fun v5 hf => ?_)
      refine z_aload_n 0 dX4_list_44 rfl rfl ?_
      refine z_gI (ci := 4) (k := 3) (C := RX4) (T := TX4) (N := 12) rfl inlX4 (by decide) mw_5_1 (fun _ _ _ _ h9 => h9) hf (by decide) rfl dX4_list_45  (fun v6 hf => ?_)
      refine z_iload_n 2 dX4_list_48 rfl rfl ?_
      refine z_sI hf dX4_list_49  (fun d7 hf => ?_)
      refine z_aload_n 0 dX4_list_50 rfl rfl ?_
      refine z_dup dX4_list_51 rfl ?_
      refine z_gI (ci := 4) (k := 3) (C := RX4) (T := TX4) (N := 12) rfl inlX4 (by decide) mw_5_1 (fun _ _ _ _ h9 => h9) hf (by decide) rfl dX4_list_52  (fun v8 hf => ?_)
      refine z_iconst 1 1 dX4_list_55 (by decide) ?_
      refine z_iadd dX4_list_56 ?_
      refine z_pI (ci := 4) (k := 3) (C := RX4) (T := TX4) (N := 12) rfl inlX4 (by decide) mw_5_1 (fun _ _ _ _ h9 => h9) tyX4 tyX4_ok nmX4 rfl hf (Or.inl (by decide)) rfl rfl rfl dX4_list_57  (fun d9 hf => ?_)
      exact zb_X4_list_60 hE hk24 hf
set_option maxRecDepth 20000 in
theorem zb_X4_list_24 {N : Nat} {sh : Sh} {r : Int32 × Dt} {E : EV} (hE : TG E (some (.int r.1)) (sh, r.2))  : ∀ (n : Nat) (l0 : Nat) (l1 : Int64) (l3 : Int32) (d : Dt), f_X4_list_24 N sh n l0 l1 l3 d = some r → Z E yX4_list cX4_list 4 (some .int) 4 (sh, d) 24 [(0, .ref l0), (1, .long l1), (3, .int l3)] [] := by
  intro n
  induction n with
  | zero => intro l0 l1 l3 d hf; cases hf
  | succ n ih => intro l0 l1 l3 d hf; exact zg_X4_list_24 hE ih hf
set_option maxRecDepth 20000 in
theorem zm_X4_list {N : Nat} {sh : Sh} {d : Dt} {l0 : Nat} {r : Int32 × Dt} (hf : f_X4_list N sh l0 d = some r) : isO sh l0 4 ∧ ∀ (l : Launch) (G : GG), Mt l G yX4_list cX4_list 4 (some .int) 4 [.ref l0] (sh, d) (some (.int r.1)) (sh, r.2) := by
  have hf0 := hf
  unfold f_X4_list at hf
  refine ite_d hf (fun hO hf => ?_) (fun _ hf => ?_)
  · refine ⟨hO, fun l G => mt_of (Or.inl (by decide)) (Nat.le_of_ble_eq_true rfl) Le.rf (fun E hE => ?_)⟩
    show Z E yX4_list cX4_list 4 (some .int) 4 (sh, d) 0 [(0, .ref l0)] []
    refine z_aload_n 0 dX4_list_0 rfl rfl ?_
    refine z_gI (ci := 4) (k := 4) (C := RX4) (T := TX4) (N := 12) rfl inlX4 (by decide) mw_5_2 (fun _ _ _ _ h9 => h9) hf (by decide) rfl dX4_list_1  (fun v1 hf => ?_)
    refine z_if_eq 12 hf dX4_list_4 (by decide) (fun hf => ?_) (fun hf => ?_)
    · refine z_aload_n 0 dX4_list_12 rfl rfl ?_
      obtain ⟨v2, ev2, hf⟩ := ob hf
      refine z_cVl (ci := 4) (T := TX4) (N := 12) (As := []) (rest := []) (zm_X4_oddBits ev2).2 (zm_X4_oddBits ev2).1 (by decide) rfl (Or.inl rfl) mw_39_13 mw_39_14 mw_39_15 mw_2_3 mw_39_16 yk_X4_oddBits (by decide) (by decide) rfl (Nat.le_of_ble_eq_true rfl) rfl dX4_list_13 ?_
      refine z_lstore_n [(1, .long v2), (0, .ref l0)] dX4_list_16 rfl (by decide) rfl ?_
      refine z_aload_n 1 dX4_list_17 rfl rfl ?_
      refine z_iconst 0 0 dX4_list_18 (by decide) ?_
      refine z_pI (ci := 4) (k := 3) (C := RX4) (T := TX4) (N := 12) rfl inlX4 (by decide) mw_5_1 (fun _ _ _ _ h9 => h9) tyX4 tyX4_ok nmX4 rfl hf (Or.inl (by decide)) rfl rfl rfl dX4_list_19  (fun d3 hf => ?_)
      refine z_iconst 0 0 dX4_list_22 (by decide) ?_
      refine z_istore_n [(3, .int (0 : Int32)), (1, .long v2), (0, .ref l0)] dX4_list_23 rfl (by decide) rfl ?_
      refine z_lv [(0, .ref l0), (1, .long v2), (3, .int (0 : Int32))] [2, 1, 0] rfl ?_
      exact zb_X4_list_24 hE N _ _ _ _ hf
    · refine z_aload_n 0 dX4_list_7 rfl rfl ?_
      refine z_gI (ci := 4) (k := 3) (C := RX4) (T := TX4) (N := 12) rfl inlX4 (by decide) mw_5_1 (fun _ _ _ _ h9 => h9) hf (by decide) rfl dX4_list_8  (fun v4 hf => ?_)
      cases hf
      exact z_ireturn hE rfl dX4_list_11
  · cases hf
set_option maxRecDepth 20000 in
theorem zb_X1_hasOneWay_46 {N : Nat} {sh : Sh} {d : Dt} {r : Int32} {E : EV} (hE : TG E (some (.int r)) (sh, d))   (hf : f_X1_hasOneWay_46 N sh  d = some r) : Z E yX1_hasOneWay cX1_hasOneWay 2 (some .boolean) 2 (sh, d) 46 [] [] := by
  unfold f_X1_hasOneWay_46 at hf
  refine z_iconst 0 0 dX1_hasOneWay_46 (by decide) ?_
  cases hf
  exact z_zreturn hE rfl (by decide) dX1_hasOneWay_47
set_option maxRecDepth 20000 in
theorem zb_X1_hasOneWay_40 {N : Nat} {sh : Sh} {d : Dt} {k2 : Nat → Int32 → Option Int32} {r : Int32} {E : EV} (hE : TG E (some (.int r)) (sh, d)) (hk2 : ∀ (l0 : Nat) (l1 : Int32), k2 l0 l1 = some r → Z E yX1_hasOneWay cX1_hasOneWay 2 (some .boolean) 2 (sh, d) 2 [(0, .ref l0), (1, .int l1)] []) {l0 : Nat} {l1 : Int32} (hf : f_X1_hasOneWay_40 N sh k2 l0 l1 d = some r) : Z E yX1_hasOneWay cX1_hasOneWay 2 (some .boolean) 2 (sh, d) 40 [(0, .ref l0), (1, .int l1)] [] := by
  unfold f_X1_hasOneWay_40 at hf
  refine z_iinc [(1, .int (l1 + 1)), (0, .ref l0)] 1 (l1 + 1) dX1_hasOneWay_40 rfl rfl (by decide) rfl ?_
  refine z_goto 2 dX1_hasOneWay_43 (by decide) ?_
  refine z_lv [(0, .ref l0), (1, .int (l1 + 1))] [1, 0] rfl ?_
  exact hk2 _ _ hf
set_option maxRecDepth 20000 in
theorem zb_X1_hasOneWay_38 {N : Nat} {sh : Sh} {d : Dt} {r : Int32} {E : EV} (hE : TG E (some (.int r)) (sh, d))   (hf : f_X1_hasOneWay_38 N sh  d = some r) : Z E yX1_hasOneWay cX1_hasOneWay 2 (some .boolean) 2 (sh, d) 38 [] [] := by
  unfold f_X1_hasOneWay_38 at hf
  refine z_iconst 1 1 dX1_hasOneWay_38 (by decide) ?_
  cases hf
  exact z_zreturn hE rfl (by decide) dX1_hasOneWay_39
set_option maxRecDepth 20000 in
theorem zg_X1_hasOneWay_2 {N : Nat} {sh : Sh} {d : Dt} {r : Int32} {k2 : Nat → Int32 → Option Int32} {E : EV} (hE : TG E (some (.int r)) (sh, d))  (hk2 : ∀ (l0 : Nat) (l1 : Int32), k2 l0 l1 = some r → Z E yX1_hasOneWay cX1_hasOneWay 2 (some .boolean) 2 (sh, d) 2 [(0, .ref l0), (1, .int l1)] []) {l0 : Nat} {l1 : Int32} (hf : g_X1_hasOneWay_2 N sh k2 l0 l1 d = some r) : Z E yX1_hasOneWay cX1_hasOneWay 2 (some .boolean) 2 (sh, d) 2 [(0, .ref l0), (1, .int l1)] [] := by
  unfold g_X1_hasOneWay_2 at hf
  refine z_iload_n 1 dX1_hasOneWay_2 rfl rfl ?_
  refine z_aload_n 0 dX1_hasOneWay_3 rfl rfl ?_
  refine z_gP (ci := 1) (k := 1) (C := RX1) (T := TX1) (N := 8) rfl inlX1 (by decide) mw_3_14 (fun _ _ _ _ h9 => h9) hf (by decide) rfl dX1_hasOneWay_4  (fun v1 hf => ?_)
  refine z_gI (ci := 8) (k := 1) (C := RX8) (T := TX8) (N := 2) rfl inlX8 (by decide) mw_8_19 (fun _ _ _ _ h9 => h9) hf (by decide) rfl dX1_hasOneWay_7  (fun v2 hf => ?_)
  refine z_icmp_ge 46 hf dX1_hasOneWay_10 (by decide) (fun hf => ?_) (fun hf => ?_)
  · refine z_lv [] [] rfl ?_
    exact zb_X1_hasOneWay_46 hE hf
  · refine z_aload_n 0 dX1_hasOneWay_13 rfl rfl ?_
    refine z_gP (ci := 1) (k := 1) (C := RX1) (T := TX1) (N := 8) rfl inlX1 (by decide) mw_3_14 (fun _ _ _ _ h9 => h9) hf (by decide) rfl dX1_hasOneWay_14  (fun v3 hf => ?_)
    refine z_iload_n 1 dX1_hasOneWay_17 rfl rfl ?_
    refine z_iconst 4 4 dX1_hasOneWay_18 (by decide) ?_
    obtain ⟨v4, ev4, hf⟩ := ob hf
    refine z_cVi (ci := 8) (T := TX8) (N := 2) (As := [.int l1, .int (4 : Int32)]) (rest := []) (zm_X8_get ev4).2 (zm_X8_get ev4).1 (by decide) rfl (Or.inl rfl) mw_10_10 mw_10_11 mw_10_12 mw_3_13 mw_10_13 yk_X8_get (by decide) (by decide) rfl (Nat.le_of_ble_eq_true rfl) rfl dX1_hasOneWay_19 ?_
    refine z_if_ne 40 hf dX1_hasOneWay_22 (by decide) (fun hf => ?_) (fun hf => ?_)
    · exact zb_X1_hasOneWay_40 hE hk2 hf
    · refine z_aload_n 0 dX1_hasOneWay_25 rfl rfl ?_
      refine z_gP (ci := 1) (k := 1) (C := RX1) (T := TX1) (N := 8) rfl inlX1 (by decide) mw_3_14 (fun _ _ _ _ h9 => h9) hf (by decide) rfl dX1_hasOneWay_26  (fun v5 hf => ?_)
      refine z_iload_n 1 dX1_hasOneWay_29 rfl rfl ?_
      refine z_iconst 5 5 dX1_hasOneWay_30 (by decide) ?_
      obtain ⟨v6, ev6, hf⟩ := ob hf
      refine z_cVi (ci := 8) (T := TX8) (N := 2) (As := [.int l1, .int (5 : Int32)]) (rest := []) (zm_X8_get ev6).2 (zm_X8_get ev6).1 (by decide) rfl (Or.inl rfl) mw_10_10 mw_10_11 mw_10_12 mw_3_13 mw_10_13 yk_X8_get (by decide) (by decide) rfl (Nat.le_of_ble_eq_true rfl) rfl dX1_hasOneWay_31 ?_
      refine z_iconst 1 1 dX1_hasOneWay_34 (by decide) ?_
      refine z_icmp_ne 40 hf dX1_hasOneWay_35 (by decide) (fun hf => ?_) (fun hf => ?_)
      · exact zb_X1_hasOneWay_40 hE hk2 hf
      · refine z_lv [] [] rfl ?_
        exact zb_X1_hasOneWay_38 hE hf
set_option maxRecDepth 20000 in
theorem zb_X1_hasOneWay_2 {N : Nat} {sh : Sh} {d : Dt} {r : Int32} {E : EV} (hE : TG E (some (.int r)) (sh, d))  : ∀ (n : Nat) (l0 : Nat) (l1 : Int32), f_X1_hasOneWay_2 N sh d n l0 l1 = some r → Z E yX1_hasOneWay cX1_hasOneWay 2 (some .boolean) 2 (sh, d) 2 [(0, .ref l0), (1, .int l1)] [] := by
  intro n
  induction n with
  | zero => intro l0 l1 hf; cases hf
  | succ n ih => intro l0 l1 hf; exact zg_X1_hasOneWay_2 hE ih hf
set_option maxRecDepth 20000 in
theorem zm_X1_hasOneWay {N : Nat} {sh : Sh} {d : Dt} {l0 : Nat} {r : Int32} (hf : f_X1_hasOneWay N sh l0 d = some r) : isO sh l0 1 ∧ ∀ (l : Launch) (G : GG), Mt l G yX1_hasOneWay cX1_hasOneWay 2 (some .boolean) 2 [.ref l0] (sh, d) (some (.int r)) (sh, d) := by
  have hf0 := hf
  unfold f_X1_hasOneWay at hf
  refine ite_d hf (fun hO hf => ?_) (fun _ hf => ?_)
  · refine ⟨hO, fun l G => mt_of (Or.inl (by decide)) (Nat.le_of_ble_eq_true rfl) Le.rf (fun E hE => ?_)⟩
    show Z E yX1_hasOneWay cX1_hasOneWay 2 (some .boolean) 2 (sh, d) 0 [(0, .ref l0)] []
    refine z_iconst 0 0 dX1_hasOneWay_0 (by decide) ?_
    refine z_istore_n [(1, .int (0 : Int32)), (0, .ref l0)] dX1_hasOneWay_1 rfl (by decide) rfl ?_
    refine z_lv [(0, .ref l0), (1, .int (0 : Int32))] [1, 0] rfl ?_
    exact zb_X1_hasOneWay_2 hE N _ _ hf
  · cases hf
set_option maxRecDepth 20000 in
theorem zb_X4_leastByPartner_74 {N : Nat} {sh : Sh} {d : Dt} {r : Int32} {E : EV} (hE : TG E (some (.int r)) (sh, d))  {l4 : Int32} (hf : f_X4_leastByPartner_74 N sh l4 d = some r) : Z E yX4_leastByPartner cX4_leastByPartner 6 (some .int) 3 (sh, d) 74 [(4, .int l4)] [] := by
  unfold f_X4_leastByPartner_74 at hf
  refine z_iload 0 dX4_leastByPartner_74 rfl ?_
  cases hf
  exact z_ireturn hE rfl dX4_leastByPartner_76
set_option maxRecDepth 20000 in
theorem zb_X4_leastByPartner_68 {N : Nat} {sh : Sh} {d : Dt} {k21 : Nat → Int32 → Int32 → Int32 → Int32 → Option Int32} {r : Int32} {E : EV} (hE : TG E (some (.int r)) (sh, d)) (hk21 : ∀ (l0 : Nat) (l2 : Int32) (l3 : Int32) (l4 : Int32) (l5 : Int32), k21 l0 l2 l3 l4 l5 = some r → Z E yX4_leastByPartner cX4_leastByPartner 6 (some .int) 3 (sh, d) 21 [(0, .ref l0), (2, .int l2), (3, .int l3), (4, .int l4), (5, .int l5)] []) {l0 : Nat} {l2 : Int32} {l3 : Int32} {l4 : Int32} {l5 : Int32} (hf : f_X4_leastByPartner_68 N sh k21 l0 l2 l3 l4 l5 d = some r) : Z E yX4_leastByPartner cX4_leastByPartner 6 (some .int) 3 (sh, d) 68 [(0, .ref l0), (2, .int l2), (3, .int l3), (4, .int l4), (5, .int l5)] [] := by
  unfold f_X4_leastByPartner_68 at hf
  refine z_iinc [(5, .int (l5 + 1)), (0, .ref l0), (2, .int l2), (3, .int l3), (4, .int l4)] 4 (l5 + 1) dX4_leastByPartner_68 rfl rfl (by decide) rfl ?_
  refine z_goto 21 dX4_leastByPartner_71 (by decide) ?_
  refine z_lv [(0, .ref l0), (2, .int l2), (3, .int l3), (4, .int l4), (5, .int (l5 + 1))] [1, 2, 3, 4, 0] rfl ?_
  exact hk21 _ _ _ _ _ hf
set_option maxRecDepth 20000 in
theorem zg_X4_leastByPartner_21 {N : Nat} {sh : Sh} {d : Dt} {r : Int32} {k21 : Nat → Int32 → Int32 → Int32 → Int32 → Option Int32} {E : EV} (hE : TG E (some (.int r)) (sh, d))  (hk21 : ∀ (l0 : Nat) (l2 : Int32) (l3 : Int32) (l4 : Int32) (l5 : Int32), k21 l0 l2 l3 l4 l5 = some r → Z E yX4_leastByPartner cX4_leastByPartner 6 (some .int) 3 (sh, d) 21 [(0, .ref l0), (2, .int l2), (3, .int l3), (4, .int l4), (5, .int l5)] []) {l0 : Nat} {l2 : Int32} {l3 : Int32} {l4 : Int32} {l5 : Int32} (hf : g_X4_leastByPartner_21 N sh k21 l0 l2 l3 l4 l5 d = some r) : Z E yX4_leastByPartner cX4_leastByPartner 6 (some .int) 3 (sh, d) 21 [(0, .ref l0), (2, .int l2), (3, .int l3), (4, .int l4), (5, .int l5)] [] := by
  unfold g_X4_leastByPartner_21 at hf
  refine z_iload 4 dX4_leastByPartner_21 rfl ?_
  refine z_aload_n 0 dX4_leastByPartner_23 rfl rfl ?_
  refine z_gI (ci := 4) (k := 3) (C := RX4) (T := TX4) (N := 12) rfl inlX4 (by decide) mw_5_1 (fun _ _ _ _ h9 => h9) hf (by decide) rfl dX4_leastByPartner_24  (fun v2 hf => ?_)
  refine z_icmp_ge 74 hf dX4_leastByPartner_27 (by decide) (fun hf => ?_) (fun hf => ?_)
  · refine z_lv [(4, .int l4)] [3] rfl ?_
    exact zb_X4_leastByPartner_74 hE hf
  · refine z_iload_n 2 dX4_leastByPartner_30 rfl rfl ?_
    refine z_iload 4 dX4_leastByPartner_31 rfl ?_
    refine z_ishr dX4_leastByPartner_33 ?_
    refine z_iconst 1 1 dX4_leastByPartner_34 (by decide) ?_
    refine z_iand dX4_leastByPartner_35 ?_
    refine z_iconst 1 1 dX4_leastByPartner_36 (by decide) ?_
    refine z_icmp_ne 68 hf dX4_leastByPartner_37 (by decide) (fun hf => ?_) (fun hf => ?_)
    · exact zb_X4_leastByPartner_68 hE hk21 hf
    · refine z_iload 3 dX4_leastByPartner_40 rfl ?_
      refine z_aload_n 0 dX4_leastByPartner_42 rfl rfl ?_
      refine z_gP (ci := 4) (k := 5) (C := RX4) (T := TX4) (N := 12) rfl inlX4 (by decide) mw_5_4 (fun _ _ _ _ h9 => h9) hf (by decide) rfl dX4_leastByPartner_43  (fun v3 hf => ?_)
      refine z_iload_n 1 dX4_leastByPartner_46 rfl rfl ?_
      refine z_aR hf dX4_leastByPartner_47  (fun v4 hf => ?_)
      refine z_iload 4 dX4_leastByPartner_48 rfl ?_
      refine z_aI hf dX4_leastByPartner_50  (fun v5 hf => ?_)
      refine z_aload_n 0 dX4_leastByPartner_51 rfl rfl ?_
      refine z_gQ (ci := 4) (k := 6) (C := RX4) (T := TX4) (N := 12) rfl inlX4 (by decide) mw_5_5 (fun _ _ _ _ h9 => h9) hf (by decide) rfl dX4_leastByPartner_52  (fun v6 hf => ?_)
      refine z_iload_n 2 dX4_leastByPartner_55 rfl rfl ?_
      refine z_iconst 1 1 dX4_leastByPartner_56 (by decide) ?_
      refine z_iload 4 dX4_leastByPartner_57 rfl ?_
      refine z_ishl dX4_leastByPartner_59 ?_
      refine z_ixor dX4_leastByPartner_60 ?_
      refine z_aI hf dX4_leastByPartner_61  (fun v7 hf => ?_)
      refine z_iadd dX4_leastByPartner_62 ?_
      refine z_min mw_41_23 mw_9_20 mw_8_22 mw_9_21 (by decide) (Nat.le_of_ble_eq_true rfl) dX4_leastByPartner_63 ?_
      refine z_istore [(4, .int (o_min l4 (v5 + v7))), (0, .ref l0), (2, .int l2), (3, .int l3), (5, .int l5)] dX4_leastByPartner_66 (by decide) rfl ?_
      refine z_lv [(0, .ref l0), (2, .int l2), (3, .int l3), (4, .int (o_min l4 (v5 + v7))), (5, .int l5)] [1, 2, 3, 0, 4] rfl ?_
      exact zb_X4_leastByPartner_68 hE hk21 hf
set_option maxRecDepth 20000 in
theorem zb_X4_leastByPartner_21 {N : Nat} {sh : Sh} {d : Dt} {r : Int32} {E : EV} (hE : TG E (some (.int r)) (sh, d))  : ∀ (n : Nat) (l0 : Nat) (l2 : Int32) (l3 : Int32) (l4 : Int32) (l5 : Int32), f_X4_leastByPartner_21 N sh d n l0 l2 l3 l4 l5 = some r → Z E yX4_leastByPartner cX4_leastByPartner 6 (some .int) 3 (sh, d) 21 [(0, .ref l0), (2, .int l2), (3, .int l3), (4, .int l4), (5, .int l5)] [] := by
  intro n
  induction n with
  | zero => intro l0 l2 l3 l4 l5 hf; cases hf
  | succ n ih => intro l0 l2 l3 l4 l5 hf; exact zg_X4_leastByPartner_21 hE ih hf
set_option maxRecDepth 20000 in
theorem zm_X4_leastByPartner {N : Nat} {sh : Sh} {d : Dt} {l0 : Nat} {l1 : Int32} {r : Int32} (hf : f_X4_leastByPartner N sh l0 l1 d = some r) : isO sh l0 4 ∧ ∀ (l : Launch) (G : GG), Mt l G yX4_leastByPartner cX4_leastByPartner 6 (some .int) 3 [.ref l0, .int l1] (sh, d) (some (.int r)) (sh, d) := by
  have hf0 := hf
  unfold f_X4_leastByPartner at hf
  refine ite_d hf (fun hO hf => ?_) (fun _ hf => ?_)
  · refine ⟨hO, fun l G => mt_of (Or.inl (by decide)) (Nat.le_of_ble_eq_true rfl) Le.rf (fun E hE => ?_)⟩
    show Z E yX4_leastByPartner cX4_leastByPartner 6 (some .int) 3 (sh, d) 0 [(0, .ref l0), (1, .int l1)] []
    refine z_iload_n 1 dX4_leastByPartner_0 rfl rfl ?_
    refine z_i2l dX4_leastByPartner_1 ?_
    obtain ⟨v1, ev1, hf⟩ := ob hf
    refine z_cNi (As := [.long l1.toInt64]) (rest := []) (zm_X11_lowest ev1) (Or.inl rfl) (fun _ _ hK => hK.2.2.2.2.2.1) mw_17_2 mw_1_2 mw_17_3 yk_X11_lowest (by decide) (by decide) rfl (Nat.le_of_ble_eq_true rfl) rfl dX4_leastByPartner_2 ?_
    refine z_istore_n [(2, .int v1), (0, .ref l0), (1, .int l1)] dX4_leastByPartner_5 rfl (by decide) rfl ?_
    refine z_iload_n 2 dX4_leastByPartner_6 rfl rfl ?_
    refine z_iload_n 2 dX4_leastByPartner_7 rfl rfl ?_
    refine z_iconst 1 1 dX4_leastByPartner_8 (by decide) ?_
    refine z_isub dX4_leastByPartner_9 ?_
    refine z_iand dX4_leastByPartner_10 ?_
    refine z_istore_n [(3, .int (l1 &&& (l1 - (1 : Int32)))), (2, .int v1), (0, .ref l0), (1, .int l1)] dX4_leastByPartner_11 rfl (by decide) rfl ?_
    refine z_ldc mw_41_10 dX4_leastByPartner_12 ?_
    refine z_istore [(4, .int (1000000000 : Int32)), (3, .int (l1 &&& (l1 - (1 : Int32)))), (2, .int v1), (0, .ref l0), (1, .int l1)] dX4_leastByPartner_14 (by decide) rfl ?_
    refine z_iload_n 2 dX4_leastByPartner_16 rfl rfl ?_
    refine z_iconst 1 1 dX4_leastByPartner_17 (by decide) ?_
    refine z_iadd dX4_leastByPartner_18 ?_
    refine z_istore [(5, .int (v1 + (1 : Int32))), (4, .int (1000000000 : Int32)), (3, .int (l1 &&& (l1 - (1 : Int32)))), (2, .int v1), (0, .ref l0), (1, .int l1)] dX4_leastByPartner_19 (by decide) rfl ?_
    refine z_lv [(0, .ref l0), (2, .int v1), (3, .int (l1 &&& (l1 - (1 : Int32)))), (4, .int (1000000000 : Int32)), (5, .int (v1 + (1 : Int32)))] [4, 3, 2, 1, 0] rfl ?_
    exact zb_X4_leastByPartner_21 hE N _ _ _ _ _ hf
  · cases hf
set_option maxRecDepth 20000 in
theorem le_X4_fillTable_16 {N : Nat} {r : AS}   {s : AS} (hf : f_X4_fillTable_16 N  s = some r) : Le s r := by
  unfold f_X4_fillTable_16 at hf
  cases hf
  exact Le.rf
set_option maxRecDepth 20000 in
theorem zb_X4_fillTable_16 {N : Nat} {r : AS} {E : EV} (hE : TG E none r)    {s : AS} (hf : f_X4_fillTable_16 N  s = some r) : Z E yX4_fillTable cX4_fillTable 3 none 4 s 16 [] [] := by
  unfold f_X4_fillTable_16 at hf
  cases hf
  exact z_return hE rfl dX4_fillTable_16
set_option maxRecDepth 20000 in
theorem le_X4_fillTable_146 {N : Nat} {r : AS}  {l0 : Nat} {s : AS} (hf : f_X4_fillTable_146 N l0 s = some r) : Le s r := by
  unfold f_X4_fillTable_146 at hf
  obtain ⟨d25, -, hf⟩ := ob hf
  cases hf
  exact Le.rf
set_option maxRecDepth 20000 in
theorem zb_X4_fillTable_146 {N : Nat} {r : AS} {E : EV} (hE : TG E none r)   {l0 : Nat} {s : AS} (hf : f_X4_fillTable_146 N l0 s = some r) : Z E yX4_fillTable cX4_fillTable 3 none 4 s 146 [(0, .ref l0)] [] := by
  unfold f_X4_fillTable_146 at hf
  refine z_aload_n 0 dX4_fillTable_146 rfl rfl ?_
  refine z_iconst 1 1 dX4_fillTable_147 (by decide) ?_
  refine z_pI (ci := 4) (k := 7) (C := RX4) (T := TX4) (N := 12) rfl inlX4 (by decide) mw_5_6 (fun _ _ _ _ h9 => h9) tyX4 tyX4_ok nmX4 rfl hf (Or.inl (by decide)) rfl rfl rfl dX4_fillTable_148  (fun d25 hf => ?_)
  cases hf
  exact z_return hE rfl dX4_fillTable_151
set_option maxRecDepth 20000 in
theorem le_X4_fillTable_139 {N : Nat} {k110 : Nat → Int32 → Int32 → AS → Option AS} {r : AS} (hk110 : ∀ (l0 : Nat) (l1 : Int32) (l2 : Int32) (s : AS), k110 l0 l1 l2 s = some r → Le s r) {l0 : Nat} {l1 : Int32} {l2 : Int32} {t0 : Nat} {t1 : Int32} {t2 : Int32} {s : AS} (hf : f_X4_fillTable_139 N k110 l0 l1 l2 t0 t1 t2 s = some r) : Le s r := by
  unfold f_X4_fillTable_139 at hf
  obtain ⟨d26, -, hf⟩ := ob hf
  exact Le.via (hk110 _ _ _ _ hf) rfl
set_option maxRecDepth 20000 in
theorem zb_X4_fillTable_139 {N : Nat} {k110 : Nat → Int32 → Int32 → AS → Option AS} {r : AS} {E : EV} (hE : TG E none r) (hk110 : ∀ (l0 : Nat) (l1 : Int32) (l2 : Int32) (s : AS), k110 l0 l1 l2 s = some r → Z E yX4_fillTable cX4_fillTable 3 none 4 s 110 [(0, .ref l0), (1, .int l1), (2, .int l2)] []) (hq110 : ∀ (l0 : Nat) (l1 : Int32) (l2 : Int32) (s : AS), k110 l0 l1 l2 s = some r → Le s r) {l0 : Nat} {l1 : Int32} {l2 : Int32} {t0 : Nat} {t1 : Int32} {t2 : Int32} {s : AS} (hf : f_X4_fillTable_139 N k110 l0 l1 l2 t0 t1 t2 s = some r) : Z E yX4_fillTable cX4_fillTable 3 none 4 s 139 [(0, .ref l0), (1, .int l1), (2, .int l2)] [.int t2, .int t1, .ref t0] := by
  unfold f_X4_fillTable_139 at hf
  refine z_sI hf dX4_fillTable_139  (fun d26 hf => ?_)
  refine z_iinc [(2, .int (l2 + 1)), (0, .ref l0), (1, .int l1)] 2 (l2 + 1) dX4_fillTable_140 rfl rfl (by decide) rfl ?_
  refine z_goto 110 dX4_fillTable_143 (by decide) ?_
  refine z_lv [(0, .ref l0), (1, .int l1), (2, .int (l2 + 1))] [1, 2, 0] rfl ?_
  exact hk110 _ _ _ _ hf
set_option maxRecDepth 20000 in
theorem lg_X4_fillTable_110 {N : Nat} {r : AS} {k110 : Nat → Int32 → Int32 → AS → Option AS}  (hk110 : ∀ (l0 : Nat) (l1 : Int32) (l2 : Int32) (s : AS), k110 l0 l1 l2 s = some r → Le s r) {l0 : Nat} {l1 : Int32} {l2 : Int32} {s : AS} (hf : g_X4_fillTable_110 N k110 l0 l1 l2 s = some r) : Le s r := by
  unfold g_X4_fillTable_110 at hf
  refine ite_c hf (fun hf => ?_) (fun hf => ?_)
  · exact Le.via (le_X4_fillTable_146 hf) rfl
  · obtain ⟨v21, -, hf⟩ := ob hf
    obtain ⟨v22, -, hf⟩ := ob hf
    obtain ⟨v23, -, hf⟩ := ob hf
    refine ite_c hf (fun hf => ?_) (fun hf => ?_)
    · exact Le.via (le_X4_fillTable_139 hk110 hf) rfl
    · obtain ⟨v24, -, hf⟩ := ob hf
      exact Le.via (le_X4_fillTable_139 hk110 hf) rfl
set_option maxRecDepth 20000 in
theorem le_X4_fillTable_110 {N : Nat} {r : AS}  : ∀ (n : Nat) (l0 : Nat) (l1 : Int32) (l2 : Int32) (s : AS), f_X4_fillTable_110 N n l0 l1 l2 s = some r → Le s r := by
  intro n
  induction n with
  | zero => intro l0 l1 l2 s hf; cases hf
  | succ n ih => intro l0 l1 l2 s hf; exact lg_X4_fillTable_110 ih hf
set_option maxRecDepth 20000 in
theorem zg_X4_fillTable_110 {N : Nat} {r : AS} {k110 : Nat → Int32 → Int32 → AS → Option AS} {E : EV} (hE : TG E none r)   (hk110 : ∀ (l0 : Nat) (l1 : Int32) (l2 : Int32) (s : AS), k110 l0 l1 l2 s = some r → Z E yX4_fillTable cX4_fillTable 3 none 4 s 110 [(0, .ref l0), (1, .int l1), (2, .int l2)] []) (hq110 : ∀ (l0 : Nat) (l1 : Int32) (l2 : Int32) (s : AS), k110 l0 l1 l2 s = some r → Le s r) {l0 : Nat} {l1 : Int32} {l2 : Int32} {s : AS} (hf : g_X4_fillTable_110 N k110 l0 l1 l2 s = some r) : Z E yX4_fillTable cX4_fillTable 3 none 4 s 110 [(0, .ref l0), (1, .int l1), (2, .int l2)] [] := by
  unfold g_X4_fillTable_110 at hf
  refine z_iload_n 2 dX4_fillTable_110 rfl rfl ?_
  refine z_iload_n 1 dX4_fillTable_111 rfl rfl ?_
  refine z_icmp_ge 146 hf dX4_fillTable_112 (by decide) (fun hf => ?_) (fun hf => ?_)
  · refine z_lv [(0, .ref l0)] [0] rfl ?_
    exact zb_X4_fillTable_146 hE hf
  · refine z_aload_n 0 dX4_fillTable_115 rfl rfl ?_
    refine z_gQ (ci := 4) (k := 6) (C := RX4) (T := TX4) (N := 12) rfl inlX4 (by decide) mw_5_5 (fun _ _ _ _ h9 => h9) hf (by decide) rfl dX4_fillTable_116  (fun v21 hf => ?_)
    refine z_iload_n 2 dX4_fillTable_119 rfl rfl ?_
    refine z_iload_n 2 dX4_fillTable_120 rfl rfl ?_
    obtain ⟨v22, ev22, hf⟩ := ob hf
    refine z_cTi (As := [.int l2]) (rest := [.int l2, .ref v21]) (zm_J6_bitCount_0f7a4 ev22) (Or.inl rfl) mw_41_12 mw_41_13 mw_41_14 mw_41_15 yk_J6_bitCount_0f7a4 (by decide) (by decide) rfl (Nat.le_of_ble_eq_true rfl) rfl dX4_fillTable_121 ?_
    refine z_iconst 2 2 dX4_fillTable_124 (by decide) ?_
    refine z_irem hf dX4_fillTable_125  (fun v23 hf => ?_)
    refine z_if_ne 137 hf dX4_fillTable_126 (by decide) (fun hf => ?_) (fun hf => ?_)
    · refine z_ldc mw_41_10 dX4_fillTable_137 ?_
      exact zb_X4_fillTable_139 hE hk110 hq110 hf
    · refine z_aload_n 0 dX4_fillTable_129 rfl rfl ?_
      refine z_iload_n 2 dX4_fillTable_130 rfl rfl ?_
      obtain ⟨v24, ev24, hf⟩ := ob hf
      refine z_cVi (ci := 4) (T := TX4) (N := 12) (As := [.int l2]) (rest := [.int l2, .ref v21]) (zm_X4_leastByPartner ev24).2 (zm_X4_leastByPartner ev24).1 (by decide) rfl (Or.inl rfl) mw_41_19 mw_41_20 mw_41_21 mw_2_3 mw_41_22 yk_X4_leastByPartner (by decide) (by decide) rfl (Nat.le_of_ble_eq_true rfl) rfl dX4_fillTable_131 ?_
      refine z_goto 139 dX4_fillTable_134 (by decide) ?_
      exact zb_X4_fillTable_139 hE hk110 hq110 hf
set_option maxRecDepth 20000 in
theorem zb_X4_fillTable_110 {N : Nat} {r : AS} {E : EV} (hE : TG E none r)   : ∀ (n : Nat) (l0 : Nat) (l1 : Int32) (l2 : Int32) (s : AS), f_X4_fillTable_110 N n l0 l1 l2 s = some r → Z E yX4_fillTable cX4_fillTable 3 none 4 s 110 [(0, .ref l0), (1, .int l1), (2, .int l2)] [] := by
  intro n
  induction n with
  | zero => intro l0 l1 l2 s hf; cases hf
  | succ n ih => intro l0 l1 l2 s hf; exact zg_X4_fillTable_110 hE ih (le_X4_fillTable_110 n) hf
set_option maxRecDepth 20000 in
theorem le_X4_fillTable_101 {N : Nat} {r : AS}  {l0 : Nat} {l1 : Int32} {s : AS} (hf : f_X4_fillTable_101 N l0 l1 s = some r) : Le s r := by
  unfold f_X4_fillTable_101 at hf
  obtain ⟨v18, -, hf⟩ := ob hf
  obtain ⟨d19, -, hf⟩ := ob hf
  exact Le.via (le_X4_fillTable_110 N _ _ _ _ hf) rfl
set_option maxRecDepth 20000 in
theorem zb_X4_fillTable_101 {N : Nat} {r : AS} {E : EV} (hE : TG E none r)   {l0 : Nat} {l1 : Int32} {s : AS} (hf : f_X4_fillTable_101 N l0 l1 s = some r) : Z E yX4_fillTable cX4_fillTable 3 none 4 s 101 [(0, .ref l0), (1, .int l1)] [] := by
  unfold f_X4_fillTable_101 at hf
  refine z_aload_n 0 dX4_fillTable_101 rfl rfl ?_
  refine z_gQ (ci := 4) (k := 6) (C := RX4) (T := TX4) (N := 12) rfl inlX4 (by decide) mw_5_5 (fun _ _ _ _ h9 => h9) hf (by decide) rfl dX4_fillTable_102  (fun v18 hf => ?_)
  refine z_iconst 0 0 dX4_fillTable_105 (by decide) ?_
  refine z_iconst 0 0 dX4_fillTable_106 (by decide) ?_
  refine z_sI hf dX4_fillTable_107  (fun d19 hf => ?_)
  refine z_iconst 1 1 dX4_fillTable_108 (by decide) ?_
  refine z_istore_n [(2, .int (1 : Int32)), (0, .ref l0), (1, .int l1)] dX4_fillTable_109 rfl (by decide) rfl ?_
  refine z_lv [(0, .ref l0), (1, .int l1), (2, .int (1 : Int32))] [1, 2, 0] rfl ?_
  exact zb_X4_fillTable_110 hE N _ _ _ _ hf
set_option maxRecDepth 20000 in
theorem le_X4_fillTable_98 {N : Nat} {r : AS}  {l0 : Nat} {l1 : Int32} {t0 : Nat} {t1 : Nat} {s : AS} (hf : f_X4_fillTable_98 N l0 l1 t0 t1 s = some r) : Le s r := by
  unfold f_X4_fillTable_98 at hf
  obtain ⟨d20, -, hf⟩ := ob hf
  exact Le.via (le_X4_fillTable_101 hf) rfl
set_option maxRecDepth 20000 in
theorem zb_X4_fillTable_98 {N : Nat} {r : AS} {E : EV} (hE : TG E none r)   {l0 : Nat} {l1 : Int32} {t0 : Nat} {t1 : Nat} {s : AS} (hf : f_X4_fillTable_98 N l0 l1 t0 t1 s = some r) : Z E yX4_fillTable cX4_fillTable 3 none 4 s 98 [(0, .ref l0), (1, .int l1)] [.ref t1, .ref t0] := by
  unfold f_X4_fillTable_98 at hf
  refine z_pQ (ci := 4) (k := 6) (C := RX4) (T := TX4) (N := 12) rfl inlX4 (by decide) mw_5_5 (fun _ _ _ _ h9 => h9) tyX4 tyX4_ok nmX4 rfl hf (by decide) rfl rfl rfl dX4_fillTable_98  (fun d20 hf => ?_)
  exact zb_X4_fillTable_101 hE hf
set_option maxRecDepth 20000 in
theorem le_X4_fillTable_78 {N : Nat} {r : AS}  {l0 : Nat} {s : AS} (hf : f_X4_fillTable_78 N l0 s = some r) : Le s r := by
  unfold f_X4_fillTable_78 at hf
  obtain ⟨v4, -, hf⟩ := ob hf
  obtain ⟨v5, -, hf⟩ := ob hf
  obtain ⟨v6, -, hf⟩ := ob hf
  refine ite_c hf (fun hf => ?_) (fun hf => ?_)
  · exact Le.via (le_X4_fillTable_101 hf) rfl
  · obtain ⟨s7, es7, hf⟩ := ob hf
    refine Le.of (t := (s.1, s.2)) rfl ((le_nArr es7).tr ?_)
    exact Le.via (le_X4_fillTable_98 hf) rfl
set_option maxRecDepth 20000 in
theorem zb_X4_fillTable_78 {N : Nat} {r : AS} {E : EV} (hE : TG E none r)   {l0 : Nat} {s : AS} (hf : f_X4_fillTable_78 N l0 s = some r) : Z E yX4_fillTable cX4_fillTable 3 none 4 s 78 [(0, .ref l0)] [] := by
  unfold f_X4_fillTable_78 at hf
  refine z_iconst 1 1 dX4_fillTable_78 (by decide) ?_
  refine z_aload_n 0 dX4_fillTable_79 rfl rfl ?_
  refine z_gI (ci := 4) (k := 3) (C := RX4) (T := TX4) (N := 12) rfl inlX4 (by decide) mw_5_1 (fun _ _ _ _ h9 => h9) hf (by decide) rfl dX4_fillTable_80  (fun v4 hf => ?_)
  refine z_ishl dX4_fillTable_83 ?_
  refine z_istore_n [(1, .int ((1 : Int32) <<< (v4 &&& 31))), (0, .ref l0)] dX4_fillTable_84 rfl (by decide) rfl ?_
  refine z_iload_n 0 dX4_fillTable_85 rfl rfl ?_
  refine z_aload_n 1 dX4_fillTable_86 rfl rfl ?_
  refine z_gQ (ci := 4) (k := 6) (C := RX4) (T := TX4) (N := 12) rfl inlX4 (by decide) mw_5_5 (fun _ _ _ _ h9 => h9) hf (by decide) rfl dX4_fillTable_87  (fun v5 hf => ?_)
  refine z_aLen hf dX4_fillTable_90  (fun v6 hf => ?_)
  refine z_icmp_le 101 hf dX4_fillTable_91 (by decide) (fun hf => ?_) (fun hf => ?_)
  · refine z_lv [(0, .ref l0), (1, .int ((1 : Int32) <<< (v4 &&& 31)))] [1, 0] rfl ?_
    exact zb_X4_fillTable_101 hE hf
  · refine z_aload_n 1 dX4_fillTable_94 rfl rfl ?_
    refine z_iload_n 0 dX4_fillTable_95 rfl rfl ?_
    refine z_na0 hf (fun _ hf => tg_le hE (le_X4_fillTable_98 hf)) mw_2_13 dX4_fillTable_96 (fun s7 hf => ?_)
    refine z_lv [(0, .ref l0), (1, .int ((1 : Int32) <<< (v4 &&& 31)))] [1, 0] rfl ?_
    exact zb_X4_fillTable_98 hE hf
set_option maxRecDepth 20000 in
theorem le_X4_fillTable_72 {N : Nat} {k19 : Nat → Int32 → AS → Option AS} {r : AS} (hk19 : ∀ (l0 : Nat) (l1 : Int32) (s : AS), k19 l0 l1 s = some r → Le s r) {l0 : Nat} {l1 : Int32} {s : AS} (hf : f_X4_fillTable_72 N k19 l0 l1 s = some r) : Le s r := by
  unfold f_X4_fillTable_72 at hf
  exact Le.via (hk19 _ _ _ hf) rfl
set_option maxRecDepth 20000 in
theorem zb_X4_fillTable_72 {N : Nat} {k19 : Nat → Int32 → AS → Option AS} {r : AS} {E : EV} (hE : TG E none r) (hk19 : ∀ (l0 : Nat) (l1 : Int32) (s : AS), k19 l0 l1 s = some r → Z E yX4_fillTable cX4_fillTable 3 none 4 s 19 [(0, .ref l0), (1, .int l1)] []) (hq19 : ∀ (l0 : Nat) (l1 : Int32) (s : AS), k19 l0 l1 s = some r → Le s r) {l0 : Nat} {l1 : Int32} {s : AS} (hf : f_X4_fillTable_72 N k19 l0 l1 s = some r) : Z E yX4_fillTable cX4_fillTable 3 none 4 s 72 [(0, .ref l0), (1, .int l1)] [] := by
  unfold f_X4_fillTable_72 at hf
  refine z_iinc [(1, .int (l1 + 1)), (0, .ref l0)] 1 (l1 + 1) dX4_fillTable_72 rfl rfl (by decide) rfl ?_
  refine z_goto 19 dX4_fillTable_75 (by decide) ?_
  refine z_lv [(0, .ref l0), (1, .int (l1 + 1))] [1, 0] rfl ?_
  exact hk19 _ _ _ hf
set_option maxRecDepth 20000 in
theorem lg_X4_fillTable_31 {N : Nat} {k19 : Nat → Int32 → AS → Option AS} {r : AS} {k31 : Nat → Int32 → Int32 → AS → Option AS} (hk19 : ∀ (l0 : Nat) (l1 : Int32) (s : AS), k19 l0 l1 s = some r → Le s r) (hk31 : ∀ (l0 : Nat) (l1 : Int32) (l2 : Int32) (s : AS), k31 l0 l1 l2 s = some r → Le s r) {l0 : Nat} {l1 : Int32} {l2 : Int32} {s : AS} (hf : g_X4_fillTable_31 N k19 k31 l0 l1 l2 s = some r) : Le s r := by
  unfold g_X4_fillTable_31 at hf
  obtain ⟨v8, -, hf⟩ := ob hf
  refine ite_c hf (fun hf => ?_) (fun hf => ?_)
  · exact Le.via (le_X4_fillTable_72 hk19 hf) rfl
  · obtain ⟨v9, -, hf⟩ := ob hf
    obtain ⟨v10, -, hf⟩ := ob hf
    obtain ⟨v11, -, hf⟩ := ob hf
    obtain ⟨v12, -, hf⟩ := ob hf
    obtain ⟨v13, -, hf⟩ := ob hf
    obtain ⟨v14, -, hf⟩ := ob hf
    obtain ⟨v15, -, hf⟩ := ob hf
    obtain ⟨v16, -, hf⟩ := ob hf
    obtain ⟨d17, -, hf⟩ := ob hf
    exact Le.via (hk31 _ _ _ _ hf) rfl
set_option maxRecDepth 20000 in
theorem le_X4_fillTable_31 {N : Nat} {k19 : Nat → Int32 → AS → Option AS} {r : AS} (hk19 : ∀ (l0 : Nat) (l1 : Int32) (s : AS), k19 l0 l1 s = some r → Le s r) : ∀ (n : Nat) (l0 : Nat) (l1 : Int32) (l2 : Int32) (s : AS), f_X4_fillTable_31 N k19 n l0 l1 l2 s = some r → Le s r := by
  intro n
  induction n with
  | zero => intro l0 l1 l2 s hf; cases hf
  | succ n ih => intro l0 l1 l2 s hf; exact lg_X4_fillTable_31 hk19 ih hf
set_option maxRecDepth 20000 in
theorem zg_X4_fillTable_31 {N : Nat} {k19 : Nat → Int32 → AS → Option AS} {r : AS} {k31 : Nat → Int32 → Int32 → AS → Option AS} {E : EV} (hE : TG E none r) (hk19 : ∀ (l0 : Nat) (l1 : Int32) (s : AS), k19 l0 l1 s = some r → Z E yX4_fillTable cX4_fillTable 3 none 4 s 19 [(0, .ref l0), (1, .int l1)] []) (hq19 : ∀ (l0 : Nat) (l1 : Int32) (s : AS), k19 l0 l1 s = some r → Le s r) (hk31 : ∀ (l0 : Nat) (l1 : Int32) (l2 : Int32) (s : AS), k31 l0 l1 l2 s = some r → Z E yX4_fillTable cX4_fillTable 3 none 4 s 31 [(0, .ref l0), (1, .int l1), (2, .int l2)] []) (hq31 : ∀ (l0 : Nat) (l1 : Int32) (l2 : Int32) (s : AS), k31 l0 l1 l2 s = some r → Le s r) {l0 : Nat} {l1 : Int32} {l2 : Int32} {s : AS} (hf : g_X4_fillTable_31 N k19 k31 l0 l1 l2 s = some r) : Z E yX4_fillTable cX4_fillTable 3 none 4 s 31 [(0, .ref l0), (1, .int l1), (2, .int l2)] [] := by
  unfold g_X4_fillTable_31 at hf
  refine z_iload_n 2 dX4_fillTable_31 rfl rfl ?_
  refine z_aload_n 0 dX4_fillTable_32 rfl rfl ?_
  refine z_gI (ci := 4) (k := 3) (C := RX4) (T := TX4) (N := 12) rfl inlX4 (by decide) mw_5_1 (fun _ _ _ _ h9 => h9) hf (by decide) rfl dX4_fillTable_33  (fun v8 hf => ?_)
  refine z_icmp_ge 72 hf dX4_fillTable_36 (by decide) (fun hf => ?_) (fun hf => ?_)
  · refine z_lv [(0, .ref l0), (1, .int l1)] [0, 1] rfl ?_
    exact zb_X4_fillTable_72 hE hk19 hq19 hf
  · refine z_aload_n 0 dX4_fillTable_39 rfl rfl ?_
    refine z_gP (ci := 4) (k := 5) (C := RX4) (T := TX4) (N := 12) rfl inlX4 (by decide) mw_5_4 (fun _ _ _ _ h9 => h9) hf (by decide) rfl dX4_fillTable_40  (fun v9 hf => ?_)
    refine z_iload_n 1 dX4_fillTable_43 rfl rfl ?_
    refine z_aR hf dX4_fillTable_44  (fun v10 hf => ?_)
    refine z_iload_n 2 dX4_fillTable_45 rfl rfl ?_
    refine z_aload_n 0 dX4_fillTable_46 rfl rfl ?_
    refine z_gP (ci := 4) (k := 1) (C := RX4) (T := TX4) (N := 12) rfl inlX4 (by decide) mw_5_12 (fun _ _ _ _ h9 => h9) hf (by decide) rfl dX4_fillTable_47  (fun v11 hf => ?_)
    refine z_aload_n 0 dX4_fillTable_50 rfl rfl ?_
    refine z_gP (ci := 4) (k := 2) (C := RX4) (T := TX4) (N := 12) rfl inlX4 (by decide) mw_5_0 (fun _ _ _ _ h9 => h9) hf (by decide) rfl dX4_fillTable_51  (fun v12 hf => ?_)
    refine z_iload_n 1 dX4_fillTable_54 rfl rfl ?_
    refine z_aI hf dX4_fillTable_55  (fun v13 hf => ?_)
    refine z_aload_n 0 dX4_fillTable_56 rfl rfl ?_
    refine z_gP (ci := 4) (k := 2) (C := RX4) (T := TX4) (N := 12) rfl inlX4 (by decide) mw_5_0 (fun _ _ _ _ h9 => h9) hf (by decide) rfl dX4_fillTable_57  (fun v14 hf => ?_)
    refine z_iload_n 2 dX4_fillTable_60 rfl rfl ?_
    refine z_aI hf dX4_fillTable_61  (fun v15 hf => ?_)
    obtain ⟨v16, ev16, hf⟩ := ob hf
    refine z_cVi (ci := 10) (T := TX10) (N := 6) (As := [.int v13, .int v15]) (rest := [.int l2, .ref v10]) (zm_X10_between ev16).2 (zm_X10_between ev16).1 (by decide) rfl (Or.inl rfl) mw_41_11 mw_17_12 mw_17_13 mw_1_23 mw_17_14 yk_X10_between (by decide) (by decide) rfl (Nat.le_of_ble_eq_true rfl) rfl dX4_fillTable_62 ?_
    refine z_sI hf dX4_fillTable_65  (fun d17 hf => ?_)
    refine z_iinc [(2, .int (l2 + 1)), (0, .ref l0), (1, .int l1)] 2 (l2 + 1) dX4_fillTable_66 rfl rfl (by decide) rfl ?_
    refine z_goto 31 dX4_fillTable_69 (by decide) ?_
    refine z_lv [(0, .ref l0), (1, .int l1), (2, .int (l2 + 1))] [1, 2, 0] rfl ?_
    exact hk31 _ _ _ _ hf
set_option maxRecDepth 20000 in
theorem zb_X4_fillTable_31 {N : Nat} {k19 : Nat → Int32 → AS → Option AS} {r : AS} {E : EV} (hE : TG E none r) (hk19 : ∀ (l0 : Nat) (l1 : Int32) (s : AS), k19 l0 l1 s = some r → Z E yX4_fillTable cX4_fillTable 3 none 4 s 19 [(0, .ref l0), (1, .int l1)] []) (hq19 : ∀ (l0 : Nat) (l1 : Int32) (s : AS), k19 l0 l1 s = some r → Le s r) : ∀ (n : Nat) (l0 : Nat) (l1 : Int32) (l2 : Int32) (s : AS), f_X4_fillTable_31 N k19 n l0 l1 l2 s = some r → Z E yX4_fillTable cX4_fillTable 3 none 4 s 31 [(0, .ref l0), (1, .int l1), (2, .int l2)] [] := by
  intro n
  induction n with
  | zero => intro l0 l1 l2 s hf; cases hf
  | succ n ih => intro l0 l1 l2 s hf; exact zg_X4_fillTable_31 hE hk19 hq19 ih (le_X4_fillTable_31 hq19 n) hf
set_option maxRecDepth 20000 in
theorem lg_X4_fillTable_19 {N : Nat} {r : AS} {k19 : Nat → Int32 → AS → Option AS}  (hk19 : ∀ (l0 : Nat) (l1 : Int32) (s : AS), k19 l0 l1 s = some r → Le s r) {l0 : Nat} {l1 : Int32} {s : AS} (hf : g_X4_fillTable_19 N k19 l0 l1 s = some r) : Le s r := by
  unfold g_X4_fillTable_19 at hf
  obtain ⟨v3, -, hf⟩ := ob hf
  refine ite_c hf (fun hf => ?_) (fun hf => ?_)
  · exact Le.via (le_X4_fillTable_78 hf) rfl
  · exact Le.via (le_X4_fillTable_31 hk19 N _ _ _ _ hf) rfl
set_option maxRecDepth 20000 in
theorem le_X4_fillTable_19 {N : Nat} {r : AS}  : ∀ (n : Nat) (l0 : Nat) (l1 : Int32) (s : AS), f_X4_fillTable_19 N n l0 l1 s = some r → Le s r := by
  intro n
  induction n with
  | zero => intro l0 l1 s hf; cases hf
  | succ n ih => intro l0 l1 s hf; exact lg_X4_fillTable_19 ih hf
set_option maxRecDepth 20000 in
theorem zg_X4_fillTable_19 {N : Nat} {r : AS} {k19 : Nat → Int32 → AS → Option AS} {E : EV} (hE : TG E none r)   (hk19 : ∀ (l0 : Nat) (l1 : Int32) (s : AS), k19 l0 l1 s = some r → Z E yX4_fillTable cX4_fillTable 3 none 4 s 19 [(0, .ref l0), (1, .int l1)] []) (hq19 : ∀ (l0 : Nat) (l1 : Int32) (s : AS), k19 l0 l1 s = some r → Le s r) {l0 : Nat} {l1 : Int32} {s : AS} (hf : g_X4_fillTable_19 N k19 l0 l1 s = some r) : Z E yX4_fillTable cX4_fillTable 3 none 4 s 19 [(0, .ref l0), (1, .int l1)] [] := by
  unfold g_X4_fillTable_19 at hf
  refine z_iload_n 1 dX4_fillTable_19 rfl rfl ?_
  refine z_aload_n 0 dX4_fillTable_20 rfl rfl ?_
  refine z_gI (ci := 4) (k := 3) (C := RX4) (T := TX4) (N := 12) rfl inlX4 (by decide) mw_5_1 (fun _ _ _ _ h9 => h9) hf (by decide) rfl dX4_fillTable_21  (fun v3 hf => ?_)
  refine z_icmp_ge 78 hf dX4_fillTable_24 (by decide) (fun hf => ?_) (fun hf => ?_)
  · refine z_lv [(0, .ref l0)] [0] rfl ?_
    exact zb_X4_fillTable_78 hE hf
  · refine z_iload_n 1 dX4_fillTable_27 rfl rfl ?_
    refine z_iconst 1 1 dX4_fillTable_28 (by decide) ?_
    refine z_iadd dX4_fillTable_29 ?_
    refine z_istore_n [(2, .int (l1 + (1 : Int32))), (0, .ref l0), (1, .int l1)] dX4_fillTable_30 rfl (by decide) rfl ?_
    refine z_lv [(0, .ref l0), (1, .int l1), (2, .int (l1 + (1 : Int32)))] [1, 2, 0] rfl ?_
    exact zb_X4_fillTable_31 hE hk19 hq19 N _ _ _ _ hf
set_option maxRecDepth 20000 in
theorem zb_X4_fillTable_19 {N : Nat} {r : AS} {E : EV} (hE : TG E none r)   : ∀ (n : Nat) (l0 : Nat) (l1 : Int32) (s : AS), f_X4_fillTable_19 N n l0 l1 s = some r → Z E yX4_fillTable cX4_fillTable 3 none 4 s 19 [(0, .ref l0), (1, .int l1)] [] := by
  intro n
  induction n with
  | zero => intro l0 l1 s hf; cases hf
  | succ n ih => intro l0 l1 s hf; exact zg_X4_fillTable_19 hE ih (le_X4_fillTable_19 n) hf
set_option maxRecDepth 20000 in
theorem lm_X4_fillTable {N : Nat} {s : AS} {l0 : Nat} {r : AS} (hf : f_X4_fillTable N l0 s = some r) : Le s r := by
  unfold f_X4_fillTable at hf
  refine ite_c hf (fun hf => ?_) (fun hf => ?_)
  · skip
    obtain ⟨v1, -, hf⟩ := ob hf
    refine ite_c hf (fun hf => ?_) (fun hf => ?_)
    · exact Le.via (le_X4_fillTable_16 hf) rfl
    · obtain ⟨v2, -, hf⟩ := ob hf
      refine ite_c hf (fun hf => ?_) (fun hf => ?_)
      · exact Le.via (le_X4_fillTable_19 N _ _ _ hf) rfl
      · exact Le.via (le_X4_fillTable_16 hf) rfl
  · cases hf
set_option maxRecDepth 20000 in
theorem zm_X4_fillTable {N : Nat} {s : AS} {l0 : Nat} {r : AS} (hf : f_X4_fillTable N l0 s = some r) : isO s.1 l0 4 ∧ ∀ (l : Launch) (G : GG), Mt l G yX4_fillTable cX4_fillTable 3 none 4 [.ref l0] s none r := by
  have hf0 := hf
  unfold f_X4_fillTable at hf
  refine ite_d hf (fun hO hf => ?_) (fun _ hf => ?_)
  · refine ⟨hO, fun l G => mt_of (Or.inl (by decide)) (Nat.le_of_ble_eq_true rfl) (lm_X4_fillTable hf0) (fun E hE => ?_)⟩
    show Z E yX4_fillTable cX4_fillTable 3 none 4 s 0 [(0, .ref l0)] []
    refine z_aload_n 0 dX4_fillTable_0 rfl rfl ?_
    refine z_gI (ci := 4) (k := 7) (C := RX4) (T := TX4) (N := 12) rfl inlX4 (by decide) mw_5_6 (fun _ _ _ _ h9 => h9) hf (by decide) rfl dX4_fillTable_1  (fun v1 hf => ?_)
    refine z_if_ne 16 hf dX4_fillTable_4 (by decide) (fun hf => ?_) (fun hf => ?_)
    · refine z_lv [] [] rfl ?_
      exact zb_X4_fillTable_16 hE hf
    · refine z_aload_n 0 dX4_fillTable_7 rfl rfl ?_
      refine z_gI (ci := 4) (k := 3) (C := RX4) (T := TX4) (N := 12) rfl inlX4 (by decide) mw_5_1 (fun _ _ _ _ h9 => h9) hf (by decide) rfl dX4_fillTable_8  (fun v2 hf => ?_)
      refine z_bipush 14 14 dX4_fillTable_11 (by decide) ?_
      refine z_icmp_le 17 hf dX4_fillTable_13 (by decide) (fun hf => ?_) (fun hf => ?_)
      · refine z_iconst 0 0 dX4_fillTable_17 (by decide) ?_
        refine z_istore_n [(1, .int (0 : Int32)), (0, .ref l0)] dX4_fillTable_18 rfl (by decide) rfl ?_
        refine z_lv [(0, .ref l0), (1, .int (0 : Int32))] [1, 0] rfl ?_
        exact zb_X4_fillTable_19 hE N _ _ _ hf
      · refine z_lv [] [] rfl ?_
        exact zb_X4_fillTable_16 hE hf
  · cases hf
set_option maxRecDepth 20000 in
theorem zb_X4_leastOf_24 {N : Nat} {sh : Sh} {d : Dt} {r : Int32} {E : EV} (hE : TG E (some (.int r)) (sh, d))  {t0 : Int32} (hf : f_X4_leastOf_24 N sh t0 d = some r) : Z E yX4_leastOf cX4_leastOf 2 (some .int) 1 (sh, d) 24 [] [.int t0] := by
  unfold f_X4_leastOf_24 at hf
  cases hf
  exact z_ireturn hE rfl dX4_leastOf_24
set_option maxRecDepth 20000 in
theorem zb_X4_leastOf_22 {N : Nat} {sh : Sh} {d : Dt} {r : Int32} {E : EV} (hE : TG E (some (.int r)) (sh, d))   (hf : f_X4_leastOf_22 N sh  d = some r) : Z E yX4_leastOf cX4_leastOf 2 (some .int) 1 (sh, d) 22 [] [] := by
  unfold f_X4_leastOf_22 at hf
  refine z_ldc mw_41_10 dX4_leastOf_22 ?_
  exact zb_X4_leastOf_24 hE hf
set_option maxRecDepth 20000 in
theorem zm_X4_leastOf {N : Nat} {sh : Sh} {d : Dt} {l0 : Nat} {l1 : Int32} {r : Int32} (hf : f_X4_leastOf N sh l0 l1 d = some r) : isO sh l0 4 ∧ ∀ (l : Launch) (G : GG), Mt l G yX4_leastOf cX4_leastOf 2 (some .int) 1 [.ref l0, .int l1] (sh, d) (some (.int r)) (sh, d) := by
  have hf0 := hf
  unfold f_X4_leastOf at hf
  refine ite_d hf (fun hO hf => ?_) (fun _ hf => ?_)
  · refine ⟨hO, fun l G => mt_of (Or.inl (by decide)) (Nat.le_of_ble_eq_true rfl) Le.rf (fun E hE => ?_)⟩
    show Z E yX4_leastOf cX4_leastOf 2 (some .int) 1 (sh, d) 0 [(0, .ref l0), (1, .int l1)] []
    refine z_iload_n 1 dX4_leastOf_0 rfl rfl ?_
    refine z_if_lt 22 hf dX4_leastOf_1 (by decide) (fun hf => ?_) (fun hf => ?_)
    · refine z_lv [] [] rfl ?_
      exact zb_X4_leastOf_22 hE hf
    · refine z_iload_n 1 dX4_leastOf_4 rfl rfl ?_
      refine z_aload_n 0 dX4_leastOf_5 rfl rfl ?_
      refine z_gQ (ci := 4) (k := 6) (C := RX4) (T := TX4) (N := 12) rfl inlX4 (by decide) mw_5_5 (fun _ _ _ _ h9 => h9) hf (by decide) rfl dX4_leastOf_6  (fun v1 hf => ?_)
      refine z_aLen hf dX4_leastOf_9  (fun v2 hf => ?_)
      refine z_icmp_ge 22 hf dX4_leastOf_10 (by decide) (fun hf => ?_) (fun hf => ?_)
      · refine z_lv [] [] rfl ?_
        exact zb_X4_leastOf_22 hE hf
      · refine z_aload_n 0 dX4_leastOf_13 rfl rfl ?_
        refine z_gQ (ci := 4) (k := 6) (C := RX4) (T := TX4) (N := 12) rfl inlX4 (by decide) mw_5_5 (fun _ _ _ _ h9 => h9) hf (by decide) rfl dX4_leastOf_14  (fun v3 hf => ?_)
        refine z_iload_n 1 dX4_leastOf_17 rfl rfl ?_
        refine z_aI hf dX4_leastOf_18  (fun v4 hf => ?_)
        refine z_goto 24 dX4_leastOf_19 (by decide) ?_
        refine z_lv [] [] rfl ?_
        exact zb_X4_leastOf_24 hE hf
  · cases hf
set_option maxRecDepth 20000 in
theorem le_X11_least_35 {N : Nat} {r : Int32 × AS}  {l0 : Nat} {s : AS} (hf : f_X11_least_35 N l0 s = some r) : Le s r.2 := by
  unfold f_X11_least_35 at hf
  obtain ⟨v11, -, hf⟩ := ob hf
  cases hf
  exact Le.rf
set_option maxRecDepth 20000 in
theorem zb_X11_least_35 {N : Nat} {r : Int32 × AS} {E : EV} (hE : TG E (some (.int r.1)) r.2)   {l0 : Nat} {s : AS} (hf : f_X11_least_35 N l0 s = some r) : Z E yX11_least cX11_least 4 (some .int) 6 s 35 [(0, .ref l0)] [] := by
  unfold f_X11_least_35 at hf
  refine z_aload_n 0 dX11_least_35 rfl rfl ?_
  refine z_bipush (-2) (-2) dX11_least_36 (by decide) ?_
  obtain ⟨v11, ev11, hf⟩ := ob hf
  refine z_cVi (ci := 11) (T := TX11) (N := 14) (As := [.int (-2 : Int32)]) (rest := []) (zm_X11_refuse ev11).2 (zm_X11_refuse ev11).1 (by decide) rfl (Or.inl rfl) mw_7_22 mw_7_23 mw_8_0 mw_1_2 mw_8_1 yk_X11_refuse (by decide) (by decide) rfl (Nat.le_of_ble_eq_true rfl) rfl dX11_least_38 ?_
  cases hf
  exact z_ireturn hE rfl dX11_least_41
set_option maxRecDepth 20000 in
theorem le_X11_least_92 {N : Nat} {r : Int32 × AS}  {t0 : Int32} {s : AS} (hf : f_X11_least_92 N t0 s = some r) : Le s r.2 := by
  unfold f_X11_least_92 at hf
  cases hf
  exact Le.rf
set_option maxRecDepth 20000 in
theorem zb_X11_least_92 {N : Nat} {r : Int32 × AS} {E : EV} (hE : TG E (some (.int r.1)) r.2)   {t0 : Int32} {s : AS} (hf : f_X11_least_92 N t0 s = some r) : Z E yX11_least cX11_least 4 (some .int) 6 s 92 [] [.int t0] := by
  unfold f_X11_least_92 at hf
  cases hf
  exact z_ireturn hE rfl dX11_least_92
set_option maxRecDepth 20000 in
theorem le_X11_least_63 {N : Nat} {r : Int32 × AS}  {l0 : Nat} {l1 : Int32} {s : AS} (hf : f_X11_least_63 N l0 l1 s = some r) : Le s r.2 := by
  unfold f_X11_least_63 at hf
  obtain ⟨v12, -, hf⟩ := ob hf
  obtain ⟨v13, -, hf⟩ := ob hf
  refine ite_c hf (fun hf => ?_) (fun hf => ?_)
  · obtain ⟨v14, -, hf⟩ := ob hf
    exact Le.via (le_X11_least_92 hf) rfl
  · obtain ⟨v15, -, hf⟩ := ob hf
    exact Le.via (le_X11_least_92 hf) rfl
set_option maxRecDepth 20000 in
theorem zb_X11_least_63 {N : Nat} {r : Int32 × AS} {E : EV} (hE : TG E (some (.int r.1)) r.2)   {l0 : Nat} {l1 : Int32} {s : AS} (hf : f_X11_least_63 N l0 l1 s = some r) : Z E yX11_least cX11_least 4 (some .int) 6 s 63 [(0, .ref l0), (1, .int l1)] [] := by
  unfold f_X11_least_63 at hf
  refine z_aload_n 0 dX11_least_63 rfl rfl ?_
  refine z_gP (ci := 11) (k := 4) (C := RX11) (T := TX11) (N := 14) rfl inlX11 (by decide) mw_2_4 (fun _ _ _ _ h9 => h9) hf (by decide) rfl dX11_least_64  (fun v12 hf => ?_)
  refine z_iload_n 1 dX11_least_67 rfl rfl ?_
  obtain ⟨v13, ev13, hf⟩ := ob hf
  refine z_cVi (ci := 4) (T := TX4) (N := 12) (As := [.int l1]) (rest := []) (zm_X4_leastOf ev13).2 (zm_X4_leastOf ev13).1 (by decide) rfl (Or.inl rfl) mw_42_0 mw_42_1 mw_42_2 mw_2_3 mw_42_3 yk_X4_leastOf (by decide) (by decide) rfl (Nat.le_of_ble_eq_true rfl) rfl dX11_least_68 ?_
  refine z_istore_n [(3, .int v13), (0, .ref l0), (1, .int l1)] dX11_least_71 rfl (by decide) rfl ?_
  refine z_iload_n 0 dX11_least_72 rfl rfl ?_
  refine z_ldc mw_15_19 dX11_least_73 ?_
  refine z_icmp_lt 87 hf dX11_least_75 (by decide) (fun hf => ?_) (fun hf => ?_)
  · refine z_aload_n 1 dX11_least_87 rfl rfl ?_
    refine z_iload_n 0 dX11_least_88 rfl rfl ?_
    obtain ⟨v14, ev14, hf⟩ := ob hf
    refine z_cVi (ci := 11) (T := TX11) (N := 14) (As := [.int v13]) (rest := []) (zm_X11_answer ev14).2 (zm_X11_answer ev14).1 (by decide) rfl (Or.inl rfl) mw_11_2 mw_11_3 mw_11_4 mw_1_2 mw_11_5 yk_X11_answer (by decide) (by decide) rfl (Nat.le_of_ble_eq_true rfl) rfl dX11_least_89 ?_
    refine z_lv [] [] rfl ?_
    exact zb_X11_least_92 hE hf
  · refine z_aload_n 1 dX11_least_78 rfl rfl ?_
    refine z_bipush (-8) (-8) dX11_least_79 (by decide) ?_
    obtain ⟨v15, ev15, hf⟩ := ob hf
    refine z_cVi (ci := 11) (T := TX11) (N := 14) (As := [.int (-8 : Int32)]) (rest := []) (zm_X11_refuse ev15).2 (zm_X11_refuse ev15).1 (by decide) rfl (Or.inl rfl) mw_7_22 mw_7_23 mw_8_0 mw_1_2 mw_8_1 yk_X11_refuse (by decide) (by decide) rfl (Nat.le_of_ble_eq_true rfl) rfl dX11_least_81 ?_
    refine z_goto 92 dX11_least_84 (by decide) ?_
    refine z_lv [] [] rfl ?_
    exact zb_X11_least_92 hE hf
set_option maxRecDepth 20000 in
theorem lm_X11_least {N : Nat} {s : AS} {l0 : Nat} {l1 : Int32} {r : Int32 × AS} (hf : f_X11_least N l0 l1 s = some r) : Le s r.2 := by
  unfold f_X11_least at hf
  refine ite_c hf (fun hf => ?_) (fun hf => ?_)
  · skip
    obtain ⟨v1, -, hf⟩ := ob hf
    obtain ⟨v2, -, hf⟩ := ob hf
    refine ite_c hf (fun hf => ?_) (fun hf => ?_)
    · exact Le.via (le_X11_least_35 hf) rfl
    · obtain ⟨v3, -, hf⟩ := ob hf
      obtain ⟨v4, -, hf⟩ := ob hf
      refine ite_c hf (fun hf => ?_) (fun hf => ?_)
      · exact Le.via (le_X11_least_35 hf) rfl
      · refine ite_c hf (fun hf => ?_) (fun hf => ?_)
        · exact Le.via (le_X11_least_35 hf) rfl
        · refine ite_c hf (fun hf => ?_) (fun hf => ?_)
          · obtain ⟨v5, -, hf⟩ := ob hf
            obtain ⟨v6, -, hf⟩ := ob hf
            obtain ⟨v7, -, hf⟩ := ob hf
            obtain ⟨v8, -, hf⟩ := ob hf
            obtain ⟨v9, -, hf⟩ := ob hf
            obtain ⟨v10, ev10, hf⟩ := ob hf
            refine Le.of (t := (s.1, v8)) rfl ((lm_X4_fillTable ev10).tr ?_)
            exact Le.via (le_X11_least_63 hf) rfl
          · exact Le.via (le_X11_least_35 hf) rfl
  · cases hf
set_option maxRecDepth 20000 in
theorem zm_X11_least {N : Nat} {s : AS} {l0 : Nat} {l1 : Int32} {r : Int32 × AS} (hf : f_X11_least N l0 l1 s = some r) : isO s.1 l0 11 ∧ ∀ (l : Launch) (G : GG), Mt l G yX11_least cX11_least 4 (some .int) 6 [.ref l0, .int l1] s (some (.int r.1)) r.2 := by
  have hf0 := hf
  unfold f_X11_least at hf
  refine ite_d hf (fun hO hf => ?_) (fun _ hf => ?_)
  · refine ⟨hO, fun l G => mt_of (Or.inl (by decide)) (Nat.le_of_ble_eq_true rfl) (lm_X11_least hf0) (fun E hE => ?_)⟩
    show Z E yX11_least cX11_least 4 (some .int) 6 s 0 [(0, .ref l0), (1, .int l1)] []
    refine z_aload_n 0 dX11_least_0 rfl rfl ?_
    refine z_gP (ci := 11) (k := 4) (C := RX11) (T := TX11) (N := 14) rfl inlX11 (by decide) mw_2_4 (fun _ _ _ _ h9 => h9) hf (by decide) rfl dX11_least_1  (fun v1 hf => ?_)
    obtain ⟨v2, ev2, hf⟩ := ob hf
    refine z_cVi (ci := 4) (T := TX4) (N := 12) (As := []) (rest := []) (zm_X4_list ev2).2 (zm_X4_list ev2).1 (by decide) rfl (Or.inl rfl) mw_39_9 mw_39_10 mw_39_11 mw_2_3 mw_39_12 yk_X4_list (by decide) (by decide) rfl (Nat.le_of_ble_eq_true rfl) rfl dX11_least_4 ?_
    refine z_istore_n [(2, .int v2.1), (0, .ref l0), (1, .int l1)] dX11_least_7 rfl (by decide) rfl ?_
    refine z_iload_n 0 dX11_least_8 rfl rfl ?_
    refine z_bipush 14 14 dX11_least_9 (by decide) ?_
    refine z_icmp_gt 35 hf dX11_least_11 (by decide) (fun hf => ?_) (fun hf => ?_)
    · refine z_lv [(0, .ref l0)] [1] rfl ?_
      exact zb_X11_least_35 hE hf
    · refine z_aload_n 1 dX11_least_14 rfl rfl ?_
      refine z_gP (ci := 11) (k := 1) (C := RX11) (T := TX11) (N := 14) rfl inlX11 (by decide) mw_1_19 (fun _ _ _ _ h9 => h9) hf (by decide) rfl dX11_least_15  (fun v3 hf => ?_)
      obtain ⟨v4, ev4, hf⟩ := ob hf
      refine z_cVi (ci := 1) (T := TX1) (N := 8) (As := []) (rest := []) (zm_X1_hasOneWay ev4).2 (zm_X1_hasOneWay ev4).1 (by decide) rfl (Or.inl rfl) mw_41_1 mw_41_2 mw_41_3 mw_1_18 mw_41_4 yk_X1_hasOneWay (by decide) (by decide) rfl (Nat.le_of_ble_eq_true rfl) rfl dX11_least_18 ?_
      refine z_if_ne 35 hf dX11_least_21 (by decide) (fun hf => ?_) (fun hf => ?_)
      · refine z_lv [(0, .ref l0)] [1] rfl ?_
        exact zb_X11_least_35 hE hf
      · refine z_iload_n 2 dX11_least_24 rfl rfl ?_
        refine z_if_lt 35 hf dX11_least_25 (by decide) (fun hf => ?_) (fun hf => ?_)
        · refine z_lv [(0, .ref l0)] [1] rfl ?_
          exact zb_X11_least_35 hE hf
        · refine z_iload_n 2 dX11_least_28 rfl rfl ?_
          refine z_iconst 1 1 dX11_least_29 (by decide) ?_
          refine z_iload_n 0 dX11_least_30 rfl rfl ?_
          refine z_ishl dX11_least_31 ?_
          refine z_icmp_lt 42 hf dX11_least_32 (by decide) (fun hf => ?_) (fun hf => ?_)
          · refine z_aload_n 1 dX11_least_42 rfl rfl ?_
            refine z_gP (ci := 11) (k := 3) (C := RX11) (T := TX11) (N := 14) rfl inlX11 (by decide) mw_2_0 (fun _ _ _ _ h9 => h9) hf (by decide) rfl dX11_least_43  (fun v5 hf => ?_)
            refine z_aload_n 1 dX11_least_46 rfl rfl ?_
            refine z_gP (ci := 11) (k := 4) (C := RX11) (T := TX11) (N := 14) rfl inlX11 (by decide) mw_2_4 (fun _ _ _ _ h9 => h9) hf (by decide) rfl dX11_least_47  (fun v6 hf => ?_)
            obtain ⟨v7, ev7, hf⟩ := ob hf
            refine z_cVl (ci := 4) (T := TX4) (N := 12) (As := []) (rest := [.ref v5]) (zm_X4_oddBits ev7).2 (zm_X4_oddBits ev7).1 (by decide) rfl (Or.inl rfl) mw_41_5 mw_39_14 mw_39_15 mw_2_3 mw_39_16 yk_X4_oddBits (by decide) (by decide) rfl (Nat.le_of_ble_eq_true rfl) rfl dX11_least_50 ?_
            obtain ⟨v8, ev8, hf⟩ := ob hf
            refine z_cVv (ci := 10) (T := TX10) (N := 6) (As := [.long v7]) (rest := []) (zm_X10_measureEach ev8).2 (zm_X10_measureEach ev8).1 (by decide) rfl (Or.inl rfl) mw_15_20 mw_15_21 mw_15_22 mw_1_23 mw_15_23 yk_X10_measureEach (by decide) (by decide) rfl (Nat.le_of_ble_eq_true rfl) rfl dX11_least_53 ?_
            refine z_aload_n 1 dX11_least_56 rfl rfl ?_
            refine z_gP (ci := 11) (k := 4) (C := RX11) (T := TX11) (N := 14) rfl inlX11 (by decide) mw_2_4 (fun _ _ _ _ h9 => h9) hf (by decide) rfl dX11_least_57  (fun v9 hf => ?_)
            obtain ⟨v10, ev10, hf⟩ := ob hf
            refine z_cVv (ci := 4) (T := TX4) (N := 12) (As := []) (rest := []) (zm_X4_fillTable ev10).2 (zm_X4_fillTable ev10).1 (by decide) rfl (Or.inr (tg_le hE (le_X11_least_63 hf))) mw_41_6 mw_41_7 mw_41_8 mw_2_3 mw_41_9 yk_X4_fillTable (by decide) (by decide) rfl (Nat.le_of_ble_eq_true rfl) rfl dX11_least_60 ?_
            refine z_lv [(0, .ref l0), (1, .int l1)] [1, 2] rfl ?_
            exact zb_X11_least_63 hE hf
          · refine z_lv [(0, .ref l0)] [1] rfl ?_
            exact zb_X11_least_35 hE hf
  · cases hf
set_option maxRecDepth 20000 in
theorem zb_X11_length_10 {N : Nat} {sh : Sh} {r : Int32 × Dt} {E : EV} (hE : TG E (some (.int r.1)) (sh, r.2))  {l0 : Nat} {d : Dt} (hf : f_X11_length_10 N sh l0 d = some r) : Z E yX11_length cX11_length 2 (some .int) 3 (sh, d) 10 [(0, .ref l0)] [] := by
  unfold f_X11_length_10 at hf
  refine z_aload_n 0 dX11_length_10 rfl rfl ?_
  refine z_bipush (-2) (-2) dX11_length_11 (by decide) ?_
  obtain ⟨v5, ev5, hf⟩ := ob hf
  refine z_cVi (ci := 11) (T := TX11) (N := 14) (As := [.int (-2 : Int32)]) (rest := []) (zm_X11_refuse ev5).2 (zm_X11_refuse ev5).1 (by decide) rfl (Or.inl rfl) mw_7_22 mw_7_23 mw_8_0 mw_1_2 mw_8_1 yk_X11_refuse (by decide) (by decide) rfl (Nat.le_of_ble_eq_true rfl) rfl dX11_length_13 ?_
  cases hf
  exact z_ireturn hE rfl dX11_length_16
set_option maxRecDepth 20000 in
theorem zm_X11_length {N : Nat} {sh : Sh} {d : Dt} {l0 : Nat} {l1 : Int32} {r : Int32 × Dt} (hf : f_X11_length N sh l0 l1 d = some r) : isO sh l0 11 ∧ ∀ (l : Launch) (G : GG), Mt l G yX11_length cX11_length 2 (some .int) 3 [.ref l0, .int l1] (sh, d) (some (.int r.1)) (sh, r.2) := by
  have hf0 := hf
  unfold f_X11_length at hf
  refine ite_d hf (fun hO hf => ?_) (fun _ hf => ?_)
  · refine ⟨hO, fun l G => mt_of (Or.inl (by decide)) (Nat.le_of_ble_eq_true rfl) Le.rf (fun E hE => ?_)⟩
    show Z E yX11_length cX11_length 2 (some .int) 3 (sh, d) 0 [(0, .ref l0), (1, .int l1)] []
    refine z_iload_n 1 dX11_length_0 rfl rfl ?_
    refine z_if_lt 10 hf dX11_length_1 (by decide) (fun hf => ?_) (fun hf => ?_)
    · refine z_lv [(0, .ref l0)] [0] rfl ?_
      exact zb_X11_length_10 hE hf
    · refine z_iload_n 1 dX11_length_4 rfl rfl ?_
      refine z_bipush 7 7 dX11_length_5 (by decide) ?_
      refine z_icmp_lt 17 hf dX11_length_7 (by decide) (fun hf => ?_) (fun hf => ?_)
      · refine z_aload_n 0 dX11_length_17 rfl rfl ?_
        refine z_aload_n 0 dX11_length_18 rfl rfl ?_
        refine z_gP (ci := 11) (k := 1) (C := RX11) (T := TX11) (N := 14) rfl inlX11 (by decide) mw_1_19 (fun _ _ _ _ h9 => h9) hf (by decide) rfl dX11_length_19  (fun v1 hf => ?_)
        refine z_gP (ci := 1) (k := 5) (C := RX1) (T := TX1) (N := 8) rfl inlX1 (by decide) mw_52_5 (fun _ _ _ _ h9 => h9) hf (by decide) rfl dX11_length_22  (fun v2 hf => ?_)
        refine z_iload_n 1 dX11_length_25 rfl rfl ?_
        refine z_aI hf dX11_length_26  (fun v3 hf => ?_)
        obtain ⟨v4, ev4, hf⟩ := ob hf
        refine z_cVi (ci := 11) (T := TX11) (N := 14) (As := [.int v3]) (rest := []) (zm_X11_answer ev4).2 (zm_X11_answer ev4).1 (by decide) rfl (Or.inl rfl) mw_11_2 mw_11_3 mw_11_4 mw_1_2 mw_11_5 yk_X11_answer (by decide) (by decide) rfl (Nat.le_of_ble_eq_true rfl) rfl dX11_length_27 ?_
        cases hf
        exact z_ireturn hE rfl dX11_length_30
      · refine z_lv [(0, .ref l0)] [0] rfl ?_
        exact zb_X11_length_10 hE hf
  · cases hf
set_option maxRecDepth 20000 in
theorem zm_X11_looks {N : Nat} {sh : Sh} {d : Dt} {l0 : Nat} {r : Int32} (hf : f_X11_looks N sh l0 d = some r) : isO sh l0 11 ∧ ∀ (l : Launch) (G : GG), Mt l G yX11_looks cX11_looks 1 (some .int) 1 [.ref l0] (sh, d) (some (.int r)) (sh, d) := by
  have hf0 := hf
  unfold f_X11_looks at hf
  refine ite_d hf (fun hO hf => ?_) (fun _ hf => ?_)
  · refine ⟨hO, fun l G => mt_of (Or.inl (by decide)) (Nat.le_of_ble_eq_true rfl) Le.rf (fun E hE => ?_)⟩
    show Z E yX11_looks cX11_looks 1 (some .int) 1 (sh, d) 0 [(0, .ref l0)] []
    refine z_aload_n 0 dX11_looks_0 rfl rfl ?_
    refine z_gP (ci := 11) (k := 0) (C := RX11) (T := TX11) (N := 14) rfl inlX11 (by decide) mw_1_15 (fun _ _ _ _ h9 => h9) hf (by decide) rfl dX11_looks_1  (fun v1 hf => ?_)
    refine z_gI (ci := 2) (k := 3) (C := RX2) (T := TX2) (N := 4) rfl inlX2 (by decide) mw_54_3 (fun _ _ _ _ h9 => h9) hf (by decide) rfl dX11_looks_4  (fun v2 hf => ?_)
    cases hf
    exact z_ireturn hE rfl dX11_looks_7
  · cases hf
set_option maxRecDepth 20000 in
theorem le_X11_lose_57 {N : Nat} {r : Int32 × AS}  {t0 : Nat} {t1 : Int32} {s : AS} (hf : f_X11_lose_57 N t0 t1 s = some r) : Le s r.2 := by
  unfold f_X11_lose_57 at hf
  obtain ⟨v11, -, hf⟩ := ob hf
  cases hf
  exact Le.rf
set_option maxRecDepth 20000 in
theorem zb_X11_lose_57 {N : Nat} {r : Int32 × AS} {E : EV} (hE : TG E (some (.int r.1)) r.2)   {t0 : Nat} {t1 : Int32} {s : AS} (hf : f_X11_lose_57 N t0 t1 s = some r) : Z E yX11_lose cX11_lose 3 (some .int) 6 s 57 [] [.int t1, .ref t0] := by
  unfold f_X11_lose_57 at hf
  obtain ⟨v11, ev11, hf⟩ := ob hf
  refine z_cVi (ci := 11) (T := TX11) (N := 14) (As := [.int t1]) (rest := []) (zm_X11_answer ev11).2 (zm_X11_answer ev11).1 (by decide) rfl (Or.inl rfl) mw_11_2 mw_11_3 mw_11_4 mw_1_2 mw_11_5 yk_X11_answer (by decide) (by decide) rfl (Nat.le_of_ble_eq_true rfl) rfl dX11_lose_57 ?_
  cases hf
  exact z_ireturn hE rfl dX11_lose_60
set_option maxRecDepth 20000 in
theorem le_X11_lose_34 {N : Nat} {r : Int32 × AS}  {l0 : Nat} {l1 : Int32} {l2 : Int32} {s : AS} (hf : f_X11_lose_34 N l0 l1 l2 s = some r) : Le s r.2 := by
  unfold f_X11_lose_34 at hf
  obtain ⟨v8, -, hf⟩ := ob hf
  obtain ⟨v9, -, hf⟩ := ob hf
  obtain ⟨v10, -, hf⟩ := ob hf
  refine ite_c hf (fun hf => ?_) (fun hf => ?_)
  · exact Le.via (le_X11_lose_57 hf) rfl
  · exact Le.via (le_X11_lose_57 hf) rfl
set_option maxRecDepth 20000 in
theorem zb_X11_lose_34 {N : Nat} {r : Int32 × AS} {E : EV} (hE : TG E (some (.int r.1)) r.2)   {l0 : Nat} {l1 : Int32} {l2 : Int32} {s : AS} (hf : f_X11_lose_34 N l0 l1 l2 s = some r) : Z E yX11_lose cX11_lose 3 (some .int) 6 s 34 [(0, .ref l0), (1, .int l1), (2, .int l2)] [] := by
  unfold f_X11_lose_34 at hf
  refine z_aload_n 0 dX11_lose_34 rfl rfl ?_
  refine z_gP (ci := 11) (k := 1) (C := RX11) (T := TX11) (N := 14) rfl inlX11 (by decide) mw_1_19 (fun _ _ _ _ h9 => h9) hf (by decide) rfl dX11_lose_35  (fun v8 hf => ?_)
  refine z_gP (ci := 1) (k := 2) (C := RX1) (T := TX1) (N := 8) rfl inlX1 (by decide) mw_19_21 (fun _ _ _ _ h9 => h9) hf (by decide) rfl dX11_lose_38  (fun v9 hf => ?_)
  refine z_iload_n 1 dX11_lose_41 rfl rfl ?_
  refine z_iconst 2 2 dX11_lose_42 (by decide) ?_
  refine z_iconst (-1) (-1) dX11_lose_43 (by decide) ?_
  obtain ⟨v10, ev10, hf⟩ := ob hf
  refine z_cVv (ci := 8) (T := TX8) (N := 2) (As := [.int l1, .int (2 : Int32), .int (-1 : Int32)]) (rest := []) (zm_X8_put ev10).2 (zm_X8_put ev10).1 (by decide) rfl (Or.inl rfl) mw_12_22 mw_12_23 mw_13_0 mw_3_13 mw_13_1 yk_X8_put (by decide) (by decide) rfl (Nat.le_of_ble_eq_true rfl) rfl dX11_lose_44 ?_
  refine z_aload_n 0 dX11_lose_47 rfl rfl ?_
  refine z_iload_n 2 dX11_lose_48 rfl rfl ?_
  refine z_if_eq 56 hf dX11_lose_49 (by decide) (fun hf => ?_) (fun hf => ?_)
  · refine z_iconst 1 1 dX11_lose_56 (by decide) ?_
    refine z_lv [] [] rfl ?_
    exact zb_X11_lose_57 hE hf
  · refine z_iconst 0 0 dX11_lose_52 (by decide) ?_
    refine z_goto 57 dX11_lose_53 (by decide) ?_
    refine z_lv [] [] rfl ?_
    exact zb_X11_lose_57 hE hf
set_option maxRecDepth 20000 in
theorem lm_X11_lose {N : Nat} {s : AS} {l0 : Nat} {l1 : Int32} {r : Int32 × AS} (hf : f_X11_lose N l0 l1 s = some r) : Le s r.2 := by
  unfold f_X11_lose at hf
  refine ite_c hf (fun hf => ?_) (fun hf => ?_)
  · skip
    obtain ⟨v1, -, hf⟩ := ob hf
    obtain ⟨v2, -, hf⟩ := ob hf
    obtain ⟨v3, -, hf⟩ := ob hf
    refine ite_c hf (fun hf => ?_) (fun hf => ?_)
    · obtain ⟨v4, -, hf⟩ := ob hf
      obtain ⟨v5, -, hf⟩ := ob hf
      obtain ⟨v6, ev6, hf⟩ := ob hf
      refine Le.of (t := (s.1, s.2)) rfl ((lm_X11_change ev6).tr ?_)
      exact Le.via (le_X11_lose_34 hf) rfl
    · obtain ⟨v7, -, hf⟩ := ob hf
      cases hf
      exact Le.rf
  · cases hf
set_option maxRecDepth 20000 in
theorem zm_X11_lose {N : Nat} {s : AS} {l0 : Nat} {l1 : Int32} {r : Int32 × AS} (hf : f_X11_lose N l0 l1 s = some r) : isO s.1 l0 11 ∧ ∀ (l : Launch) (G : GG), Mt l G yX11_lose cX11_lose 3 (some .int) 6 [.ref l0, .int l1] s (some (.int r.1)) r.2 := by
  have hf0 := hf
  unfold f_X11_lose at hf
  refine ite_d hf (fun hO hf => ?_) (fun _ hf => ?_)
  · refine ⟨hO, fun l G => mt_of (Or.inl (by decide)) (Nat.le_of_ble_eq_true rfl) (lm_X11_lose hf0) (fun E hE => ?_)⟩
    show Z E yX11_lose cX11_lose 3 (some .int) 6 s 0 [(0, .ref l0), (1, .int l1)] []
    refine z_aload_n 0 dX11_lose_0 rfl rfl ?_
    refine z_gP (ci := 11) (k := 1) (C := RX11) (T := TX11) (N := 14) rfl inlX11 (by decide) mw_1_19 (fun _ _ _ _ h9 => h9) hf (by decide) rfl dX11_lose_1  (fun v1 hf => ?_)
    refine z_gP (ci := 1) (k := 2) (C := RX1) (T := TX1) (N := 8) rfl inlX1 (by decide) mw_19_21 (fun _ _ _ _ h9 => h9) hf (by decide) rfl dX11_lose_4  (fun v2 hf => ?_)
    refine z_iload_n 1 dX11_lose_7 rfl rfl ?_
    obtain ⟨v3, ev3, hf⟩ := ob hf
    refine z_cVi (ci := 8) (T := TX8) (N := 2) (As := [.int l1]) (rest := []) (zm_X8_has ev3).2 (zm_X8_has ev3).1 (by decide) rfl (Or.inl rfl) mw_13_22 mw_13_23 mw_14_0 mw_3_13 mw_14_1 yk_X8_has (by decide) (by decide) rfl (Nat.le_of_ble_eq_true rfl) rfl dX11_lose_8 ?_
    refine z_if_ne 21 hf dX11_lose_11 (by decide) (fun hf => ?_) (fun hf => ?_)
    · refine z_aload_n 0 dX11_lose_21 rfl rfl ?_
      refine z_gP (ci := 11) (k := 1) (C := RX11) (T := TX11) (N := 14) rfl inlX11 (by decide) mw_1_19 (fun _ _ _ _ h9 => h9) hf (by decide) rfl dX11_lose_22  (fun v4 hf => ?_)
      refine z_iload_n 1 dX11_lose_25 rfl rfl ?_
      obtain ⟨v5, ev5, hf⟩ := ob hf
      refine z_cVi (ci := 1) (T := TX1) (N := 8) (As := [.int l1]) (rest := []) (zm_X1_isMissing ev5).2 (zm_X1_isMissing ev5).1 (by decide) rfl (Or.inl rfl) mw_21_17 mw_21_18 mw_21_19 mw_1_18 mw_21_20 yk_X1_isMissing (by decide) (by decide) rfl (Nat.le_of_ble_eq_true rfl) rfl dX11_lose_26 ?_
      refine z_istore_n [(2, .int v5), (0, .ref l0), (1, .int l1)] dX11_lose_29 rfl (by decide) rfl ?_
      refine z_aload_n 1 dX11_lose_30 rfl rfl ?_
      obtain ⟨v6, ev6, hf⟩ := ob hf
      refine z_cVv (ci := 11) (T := TX11) (N := 14) (As := []) (rest := []) (zm_X11_change ev6).2 (zm_X11_change ev6).1 (by decide) rfl (Or.inr (tg_le hE (le_X11_lose_34 hf))) mw_8_7 mw_8_8 mw_8_9 mw_1_2 mw_8_10 yk_X11_change (by decide) (by decide) rfl (Nat.le_of_ble_eq_true rfl) rfl dX11_lose_31 ?_
      refine z_lv [(0, .ref l0), (1, .int l1), (2, .int v5)] [1, 2, 0] rfl ?_
      exact zb_X11_lose_34 hE hf
    · refine z_aload_n 0 dX11_lose_14 rfl rfl ?_
      refine z_bipush (-2) (-2) dX11_lose_15 (by decide) ?_
      obtain ⟨v7, ev7, hf⟩ := ob hf
      refine z_cVi (ci := 11) (T := TX11) (N := 14) (As := [.int (-2 : Int32)]) (rest := []) (zm_X11_refuse ev7).2 (zm_X11_refuse ev7).1 (by decide) rfl (Or.inl rfl) mw_7_22 mw_7_23 mw_8_0 mw_1_2 mw_8_1 yk_X11_refuse (by decide) (by decide) rfl (Nat.le_of_ble_eq_true rfl) rfl dX11_lose_17 ?_
      cases hf
      exact z_ireturn hE rfl dX11_lose_20
  · cases hf
set_option maxRecDepth 20000 in
theorem zm_X11_wholeIn {N : Nat} {sh : Sh} {d : Dt} {l0 : Int32} {l1 : Int32} {r : Int32} (hf : f_X11_wholeIn N sh l0 l1 d = some r) : ∀ (l : Launch) (G : GG), Mt l G yX11_wholeIn cX11_wholeIn 9 (some .int) 1 [.int l0, .int l1] (sh, d) (some (.int r)) (sh, d) := by
  have hf0 := hf
  unfold f_X11_wholeIn at hf
  refine fun l G => mt_of (Or.inl (by decide)) (Nat.le_of_ble_eq_true rfl) Le.rf (fun E hE => ?_)
  show Z E yX11_wholeIn cX11_wholeIn 9 (some .int) 1 (sh, d) 0 [(0, .int l0), (1, .int l1)] []
  refine z_iload_n 0 dX11_wholeIn_0 rfl rfl ?_
  refine z_i2f dX11_wholeIn_1 ?_
  refine z_f2l dX11_wholeIn_2 ?_
  refine z_lstore_n [(2, .long (FP.f2l (FP.i2f l0))), (0, .int l0), (1, .int l1)] dX11_wholeIn_3 rfl (by decide) rfl ?_
  refine z_iload_n 2 dX11_wholeIn_4 rfl rfl ?_
  refine z_i2f dX11_wholeIn_5 ?_
  refine z_f2l dX11_wholeIn_6 ?_
  refine z_lstore [(4, .long (FP.f2l (FP.i2f l1))), (2, .long (FP.f2l (FP.i2f l0))), (0, .int l0), (1, .int l1)] dX11_wholeIn_7 (by decide) rfl ?_
  refine z_lload 0 dX11_wholeIn_9 rfl ?_
  refine z_lconst 1 1 dX11_wholeIn_11 (by decide) ?_
  refine z_lcmp dX11_wholeIn_12 ?_
  refine z_if_ge 18 hf dX11_wholeIn_13 (by decide) (fun hf => ?_) (fun hf => ?_)
  · refine z_lload_n 1 dX11_wholeIn_18 rfl rfl ?_
    refine z_lload 0 dX11_wholeIn_19 rfl ?_
    refine z_lrem hf dX11_wholeIn_21  (fun v1 hf => ?_)
    refine z_l2f dX11_wholeIn_22 ?_
    refine z_ldcwf mw_28_23 dX11_wholeIn_23 ?_
    refine z_fdiv hf dX11_wholeIn_26  (fun v2 hf => ?_)
    refine z_fstore [(6, .float v2), (4, .long (FP.f2l (FP.i2f l1))), (2, .long (FP.f2l (FP.i2f l0))), (0, .int l0), (1, .int l1)] dX11_wholeIn_27 (by decide) rfl ?_
    refine z_iload_n 3 dX11_wholeIn_29 rfl rfl ?_
    refine z_i2f dX11_wholeIn_30 ?_
    refine z_ldcwf mw_28_23 dX11_wholeIn_31 ?_
    refine z_fdiv hf dX11_wholeIn_34  (fun v3 hf => ?_)
    refine z_fstore [(7, .float v3), (6, .float v2), (4, .long (FP.f2l (FP.i2f l1))), (2, .long (FP.f2l (FP.i2f l0))), (0, .int l0), (1, .int l1)] dX11_wholeIn_35 (by decide) rfl ?_
    refine z_iload_n 5 dX11_wholeIn_37 rfl rfl ?_
    refine z_i2f dX11_wholeIn_38 ?_
    refine z_ldcwf mw_28_23 dX11_wholeIn_39 ?_
    refine z_fdiv hf dX11_wholeIn_42  (fun v4 hf => ?_)
    refine z_fstore [(8, .float v4), (7, .float v3), (6, .float v2), (4, .long (FP.f2l (FP.i2f l1))), (2, .long (FP.f2l (FP.i2f l0))), (0, .int l0), (1, .int l1)] dX11_wholeIn_43 (by decide) rfl ?_
    refine z_ldcw mw_27_17 dX11_wholeIn_45 ?_
    refine z_fload 1 dX11_wholeIn_48 rfl ?_
    refine z_fload 2 dX11_wholeIn_50 rfl ?_
    refine z_fsub hf dX11_wholeIn_52  (fun v5 hf => ?_)
    refine z_fload 0 dX11_wholeIn_53 rfl ?_
    refine z_fdiv hf dX11_wholeIn_55  (fun v6 hf => ?_)
    refine z_f2i dX11_wholeIn_56 ?_
    refine z_min mw_27_19 mw_9_20 mw_8_22 mw_9_21 (by decide) (Nat.le_of_ble_eq_true rfl) dX11_wholeIn_57 ?_
    cases hf
    exact z_ireturn hE rfl dX11_wholeIn_60
  · refine z_iconst 0 0 dX11_wholeIn_16 (by decide) ?_
    cases hf
    exact z_ireturn hE rfl dX11_wholeIn_17
set_option maxRecDepth 20000 in
theorem zm_X1_lessDrift {N : Nat} {sh : Sh} {d : Dt} {l0 : Nat} {l1 : Int32} {l2 : Int32} {r : Dt} (hf : f_X1_lessDrift N sh l0 l1 l2 d = some r) : isO sh l0 1 ∧ ∀ (l : Launch) (G : GG), Mt l G yX1_lessDrift cX1_lessDrift 3 none 2 [.ref l0, .int l1, .int l2] (sh, d) none (sh, r) := by
  have hf0 := hf
  unfold f_X1_lessDrift at hf
  refine ite_d hf (fun hO hf => ?_) (fun _ hf => ?_)
  · refine ⟨hO, fun l G => mt_of (Or.inl (by decide)) (Nat.le_of_ble_eq_true rfl) Le.rf (fun E hE => ?_)⟩
    show Z E yX1_lessDrift cX1_lessDrift 3 none 2 (sh, d) 0 [(0, .ref l0), (1, .int l1), (2, .int l2)] []
    refine z_aload_n 0 dX1_lessDrift_0 rfl rfl ?_
    refine z_gP (ci := 1) (k := 1) (C := RX1) (T := TX1) (N := 8) rfl inlX1 (by decide) mw_3_14 (fun _ _ _ _ h9 => h9) hf (by decide) rfl dX1_lessDrift_1  (fun v1 hf => ?_)
    refine z_iload_n 1 dX1_lessDrift_4 rfl rfl ?_
    refine z_iconst 0 0 dX1_lessDrift_5 (by decide) ?_
    refine z_iconst 0 0 dX1_lessDrift_6 (by decide) ?_
    refine z_aload_n 0 dX1_lessDrift_7 rfl rfl ?_
    refine z_gP (ci := 1) (k := 1) (C := RX1) (T := TX1) (N := 8) rfl inlX1 (by decide) mw_3_14 (fun _ _ _ _ h9 => h9) hf (by decide) rfl dX1_lessDrift_8  (fun v2 hf => ?_)
    refine z_iload_n 1 dX1_lessDrift_11 rfl rfl ?_
    refine z_iconst 0 0 dX1_lessDrift_12 (by decide) ?_
    obtain ⟨v3, ev3, hf⟩ := ob hf
    refine z_cVi (ci := 8) (T := TX8) (N := 2) (As := [.int l1, .int (0 : Int32)]) (rest := [.int (0 : Int32), .int (0 : Int32), .int l1, .ref v1]) (zm_X8_get ev3).2 (zm_X8_get ev3).1 (by decide) rfl (Or.inl rfl) mw_10_10 mw_10_11 mw_10_12 mw_3_13 mw_10_13 yk_X8_get (by decide) (by decide) rfl (Nat.le_of_ble_eq_true rfl) rfl dX1_lessDrift_13 ?_
    refine z_iload_n 2 dX1_lessDrift_16 rfl rfl ?_
    refine z_isub dX1_lessDrift_17 ?_
    refine z_max mw_8_20 mw_8_21 mw_8_22 mw_8_23 (by decide) (Nat.le_of_ble_eq_true rfl) dX1_lessDrift_18 ?_
    obtain ⟨v4, ev4, hf⟩ := ob hf
    refine z_cVv (ci := 8) (T := TX8) (N := 2) (As := [.int l1, .int (0 : Int32), .int (o_max (0 : Int32) (v3 - l2))]) (rest := []) (zm_X8_put ev4).2 (zm_X8_put ev4).1 (by decide) rfl (Or.inl rfl) mw_20_3 mw_12_23 mw_13_0 mw_3_13 mw_13_1 yk_X8_put (by decide) (by decide) rfl (Nat.le_of_ble_eq_true rfl) rfl dX1_lessDrift_21 ?_
    cases hf
    exact z_return hE rfl dX1_lessDrift_24
  · cases hf
set_option maxRecDepth 20000 in
theorem le_X11_melt_8 {N : Nat} {r : Int32 × AS}  {l0 : Nat} {s : AS} (hf : f_X11_melt_8 N l0 s = some r) : Le s r.2 := by
  unfold f_X11_melt_8 at hf
  obtain ⟨v4, -, hf⟩ := ob hf
  cases hf
  exact Le.rf
set_option maxRecDepth 20000 in
theorem zb_X11_melt_8 {N : Nat} {r : Int32 × AS} {E : EV} (hE : TG E (some (.int r.1)) r.2)   {l0 : Nat} {s : AS} (hf : f_X11_melt_8 N l0 s = some r) : Z E yX11_melt cX11_melt 5 (some .int) 6 s 8 [(0, .ref l0)] [] := by
  unfold f_X11_melt_8 at hf
  refine z_aload_n 0 dX11_melt_8 rfl rfl ?_
  refine z_bipush (-2) (-2) dX11_melt_9 (by decide) ?_
  obtain ⟨v4, ev4, hf⟩ := ob hf
  refine z_cVi (ci := 11) (T := TX11) (N := 14) (As := [.int (-2 : Int32)]) (rest := []) (zm_X11_refuse ev4).2 (zm_X11_refuse ev4).1 (by decide) rfl (Or.inl rfl) mw_7_22 mw_7_23 mw_8_0 mw_1_2 mw_8_1 yk_X11_refuse (by decide) (by decide) rfl (Nat.le_of_ble_eq_true rfl) rfl dX11_melt_11 ?_
  cases hf
  exact z_ireturn hE rfl dX11_melt_14
set_option maxRecDepth 20000 in
theorem le_X11_melt_72 {N : Nat} {r : Int32 × AS}  {l0 : Nat} {l3 : Int32} {s : AS} (hf : f_X11_melt_72 N l0 l3 s = some r) : Le s r.2 := by
  unfold f_X11_melt_72 at hf
  obtain ⟨v10, -, hf⟩ := ob hf
  cases hf
  exact Le.rf
set_option maxRecDepth 20000 in
theorem zb_X11_melt_72 {N : Nat} {r : Int32 × AS} {E : EV} (hE : TG E (some (.int r.1)) r.2)   {l0 : Nat} {l3 : Int32} {s : AS} (hf : f_X11_melt_72 N l0 l3 s = some r) : Z E yX11_melt cX11_melt 5 (some .int) 6 s 72 [(0, .ref l0), (3, .int l3)] [] := by
  unfold f_X11_melt_72 at hf
  refine z_aload_n 0 dX11_melt_72 rfl rfl ?_
  refine z_iload_n 1 dX11_melt_73 rfl rfl ?_
  obtain ⟨v10, ev10, hf⟩ := ob hf
  refine z_cVi (ci := 11) (T := TX11) (N := 14) (As := [.int l3]) (rest := []) (zm_X11_answer ev10).2 (zm_X11_answer ev10).1 (by decide) rfl (Or.inl rfl) mw_11_2 mw_11_3 mw_11_4 mw_1_2 mw_11_5 yk_X11_answer (by decide) (by decide) rfl (Nat.le_of_ble_eq_true rfl) rfl dX11_melt_74 ?_
  cases hf
  exact z_ireturn hE rfl dX11_melt_77
set_option maxRecDepth 20000 in
theorem lg_X11_melt_39 {N : Nat} {r : Int32 × AS} {k39 : Nat → Int32 → Int32 → AS → Option (Int32 × AS)}  (hk39 : ∀ (l0 : Nat) (l3 : Int32) (l4 : Int32) (s : AS), k39 l0 l3 l4 s = some r → Le s r.2) {l0 : Nat} {l3 : Int32} {l4 : Int32} {s : AS} (hf : g_X11_melt_39 N k39 l0 l3 l4 s = some r) : Le s r.2 := by
  unfold g_X11_melt_39 at hf
  obtain ⟨v5, -, hf⟩ := ob hf
  obtain ⟨v6, -, hf⟩ := ob hf
  obtain ⟨v7, -, hf⟩ := ob hf
  refine ite_c hf (fun hf => ?_) (fun hf => ?_)
  · exact Le.via (le_X11_melt_72 hf) rfl
  · obtain ⟨v8, -, hf⟩ := ob hf
    obtain ⟨v9, -, hf⟩ := ob hf
    exact Le.via (hk39 _ _ _ _ hf) rfl
set_option maxRecDepth 20000 in
theorem le_X11_melt_39 {N : Nat} {r : Int32 × AS}  : ∀ (n : Nat) (l0 : Nat) (l3 : Int32) (l4 : Int32) (s : AS), f_X11_melt_39 N n l0 l3 l4 s = some r → Le s r.2 := by
  intro n
  induction n with
  | zero => intro l0 l3 l4 s hf; cases hf
  | succ n ih => intro l0 l3 l4 s hf; exact lg_X11_melt_39 ih hf
set_option maxRecDepth 20000 in
theorem zg_X11_melt_39 {N : Nat} {r : Int32 × AS} {k39 : Nat → Int32 → Int32 → AS → Option (Int32 × AS)} {E : EV} (hE : TG E (some (.int r.1)) r.2)   (hk39 : ∀ (l0 : Nat) (l3 : Int32) (l4 : Int32) (s : AS), k39 l0 l3 l4 s = some r → Z E yX11_melt cX11_melt 5 (some .int) 6 s 39 [(0, .ref l0), (3, .int l3), (4, .int l4)] []) (hq39 : ∀ (l0 : Nat) (l3 : Int32) (l4 : Int32) (s : AS), k39 l0 l3 l4 s = some r → Le s r.2) {l0 : Nat} {l3 : Int32} {l4 : Int32} {s : AS} (hf : g_X11_melt_39 N k39 l0 l3 l4 s = some r) : Z E yX11_melt cX11_melt 5 (some .int) 6 s 39 [(0, .ref l0), (3, .int l3), (4, .int l4)] [] := by
  unfold g_X11_melt_39 at hf
  refine z_iload 2 dX11_melt_39 rfl ?_
  refine z_aload_n 0 dX11_melt_41 rfl rfl ?_
  refine z_gP (ci := 11) (k := 1) (C := RX11) (T := TX11) (N := 14) rfl inlX11 (by decide) mw_1_19 (fun _ _ _ _ h9 => h9) hf (by decide) rfl dX11_melt_42  (fun v5 hf => ?_)
  refine z_gP (ci := 1) (k := 1) (C := RX1) (T := TX1) (N := 8) rfl inlX1 (by decide) mw_12_12 (fun _ _ _ _ h9 => h9) hf (by decide) rfl dX11_melt_45  (fun v6 hf => ?_)
  refine z_gI (ci := 8) (k := 1) (C := RX8) (T := TX8) (N := 2) rfl inlX8 (by decide) mw_12_13 (fun _ _ _ _ h9 => h9) hf (by decide) rfl dX11_melt_48  (fun v7 hf => ?_)
  refine z_icmp_ge 72 hf dX11_melt_51 (by decide) (fun hf => ?_) (fun hf => ?_)
  · refine z_lv [(0, .ref l0), (3, .int l3)] [0, 1] rfl ?_
    exact zb_X11_melt_72 hE hf
  · refine z_aload_n 0 dX11_melt_54 rfl rfl ?_
    refine z_gP (ci := 11) (k := 1) (C := RX11) (T := TX11) (N := 14) rfl inlX11 (by decide) mw_1_19 (fun _ _ _ _ h9 => h9) hf (by decide) rfl dX11_melt_55  (fun v8 hf => ?_)
    refine z_iload 2 dX11_melt_58 rfl ?_
    refine z_iconst 3 3 dX11_melt_60 (by decide) ?_
    refine z_iload_n 1 dX11_melt_61 rfl rfl ?_
    refine z_imul dX11_melt_62 ?_
    obtain ⟨v9, ev9, hf⟩ := ob hf
    refine z_cVv (ci := 1) (T := TX1) (N := 8) (As := [.int l4, .int ((3 : Int32) * l3)]) (rest := []) (zm_X1_lessDrift ev9).2 (zm_X1_lessDrift ev9).1 (by decide) rfl (Or.inl rfl) mw_29_0 mw_29_1 mw_29_2 mw_1_18 mw_29_3 yk_X1_lessDrift (by decide) (by decide) rfl (Nat.le_of_ble_eq_true rfl) rfl dX11_melt_63 ?_
    refine z_iinc [(4, .int (l4 + 1)), (0, .ref l0), (3, .int l3)] 2 (l4 + 1) dX11_melt_66 rfl rfl (by decide) rfl ?_
    refine z_goto 39 dX11_melt_69 (by decide) ?_
    refine z_lv [(0, .ref l0), (3, .int l3), (4, .int (l4 + 1))] [1, 2, 0] rfl ?_
    exact hk39 _ _ _ _ hf
set_option maxRecDepth 20000 in
theorem zb_X11_melt_39 {N : Nat} {r : Int32 × AS} {E : EV} (hE : TG E (some (.int r.1)) r.2)   : ∀ (n : Nat) (l0 : Nat) (l3 : Int32) (l4 : Int32) (s : AS), f_X11_melt_39 N n l0 l3 l4 s = some r → Z E yX11_melt cX11_melt 5 (some .int) 6 s 39 [(0, .ref l0), (3, .int l3), (4, .int l4)] [] := by
  intro n
  induction n with
  | zero => intro l0 l3 l4 s hf; cases hf
  | succ n ih => intro l0 l3 l4 s hf; exact zg_X11_melt_39 hE ih (le_X11_melt_39 n) hf
set_option maxRecDepth 20000 in
theorem le_X11_melt_36 {N : Nat} {r : Int32 × AS}  {l0 : Nat} {l3 : Int32} {s : AS} (hf : f_X11_melt_36 N l0 l3 s = some r) : Le s r.2 := by
  unfold f_X11_melt_36 at hf
  exact Le.via (le_X11_melt_39 N _ _ _ _ hf) rfl
set_option maxRecDepth 20000 in
theorem zb_X11_melt_36 {N : Nat} {r : Int32 × AS} {E : EV} (hE : TG E (some (.int r.1)) r.2)   {l0 : Nat} {l3 : Int32} {s : AS} (hf : f_X11_melt_36 N l0 l3 s = some r) : Z E yX11_melt cX11_melt 5 (some .int) 6 s 36 [(0, .ref l0), (3, .int l3)] [] := by
  unfold f_X11_melt_36 at hf
  refine z_iconst 0 0 dX11_melt_36 (by decide) ?_
  refine z_istore [(4, .int (0 : Int32)), (0, .ref l0), (3, .int l3)] dX11_melt_37 (by decide) rfl ?_
  refine z_lv [(0, .ref l0), (3, .int l3), (4, .int (0 : Int32))] [1, 2, 0] rfl ?_
  exact zb_X11_melt_39 hE N _ _ _ _ hf
set_option maxRecDepth 20000 in
theorem lm_X11_melt {N : Nat} {s : AS} {l0 : Nat} {l1 : Int32} {l2 : Int32} {r : Int32 × AS} (hf : f_X11_melt N l0 l1 l2 s = some r) : Le s r.2 := by
  unfold f_X11_melt at hf
  refine ite_c hf (fun hf => ?_) (fun hf => ?_)
  · skip
    refine ite_c hf (fun hf => ?_) (fun hf => ?_)
    · exact Le.via (le_X11_melt_8 hf) rfl
    · refine ite_c hf (fun hf => ?_) (fun hf => ?_)
      · refine ite_c hf (fun hf => ?_) (fun hf => ?_)
        · obtain ⟨v1, -, hf⟩ := ob hf
          obtain ⟨v2, ev2, hf⟩ := ob hf
          refine Le.of (t := (s.1, s.2)) rfl ((lm_X11_change ev2).tr ?_)
          exact Le.via (le_X11_melt_36 hf) rfl
        · obtain ⟨v3, -, hf⟩ := ob hf
          cases hf
          exact Le.rf
      · exact Le.via (le_X11_melt_8 hf) rfl
  · cases hf
set_option maxRecDepth 20000 in
theorem zm_X11_melt {N : Nat} {s : AS} {l0 : Nat} {l1 : Int32} {l2 : Int32} {r : Int32 × AS} (hf : f_X11_melt N l0 l1 l2 s = some r) : isO s.1 l0 11 ∧ ∀ (l : Launch) (G : GG), Mt l G yX11_melt cX11_melt 5 (some .int) 6 [.ref l0, .int l1, .int l2] s (some (.int r.1)) r.2 := by
  have hf0 := hf
  unfold f_X11_melt at hf
  refine ite_d hf (fun hO hf => ?_) (fun _ hf => ?_)
  · refine ⟨hO, fun l G => mt_of (Or.inl (by decide)) (Nat.le_of_ble_eq_true rfl) (lm_X11_melt hf0) (fun E hE => ?_)⟩
    show Z E yX11_melt cX11_melt 5 (some .int) 6 s 0 [(0, .ref l0), (1, .int l1), (2, .int l2)] []
    refine z_iload_n 1 dX11_melt_0 rfl rfl ?_
    refine z_if_lt 8 hf dX11_melt_1 (by decide) (fun hf => ?_) (fun hf => ?_)
    · refine z_lv [(0, .ref l0)] [0] rfl ?_
      exact zb_X11_melt_8 hE hf
    · refine z_iload_n 2 dX11_melt_4 rfl rfl ?_
      refine z_if_ge 15 hf dX11_melt_5 (by decide) (fun hf => ?_) (fun hf => ?_)
      · refine z_iload_n 2 dX11_melt_15 rfl rfl ?_
        refine z_if_ne 26 hf dX11_melt_16 (by decide) (fun hf => ?_) (fun hf => ?_)
        · refine z_iload_n 1 dX11_melt_26 rfl rfl ?_
          refine z_iload_n 2 dX11_melt_27 rfl rfl ?_
          obtain ⟨v1, ev1, hf⟩ := ob hf
          refine z_cTi (As := [.int l1, .int l2]) (rest := []) (zm_X11_wholeIn ev1) (Or.inl rfl) mw_28_20 mw_28_21 mw_1_2 mw_28_22 yk_X11_wholeIn (by decide) (by decide) rfl (Nat.le_of_ble_eq_true rfl) rfl dX11_melt_28 ?_
          refine z_istore_n [(3, .int v1), (0, .ref l0), (1, .int l1), (2, .int l2)] dX11_melt_31 rfl (by decide) rfl ?_
          refine z_aload_n 1 dX11_melt_32 rfl rfl ?_
          obtain ⟨v2, ev2, hf⟩ := ob hf
          refine z_cVv (ci := 11) (T := TX11) (N := 14) (As := []) (rest := []) (zm_X11_change ev2).2 (zm_X11_change ev2).1 (by decide) rfl (Or.inr (tg_le hE (le_X11_melt_36 hf))) mw_8_7 mw_8_8 mw_8_9 mw_1_2 mw_8_10 yk_X11_change (by decide) (by decide) rfl (Nat.le_of_ble_eq_true rfl) rfl dX11_melt_33 ?_
          refine z_lv [(0, .ref l0), (3, .int v1)] [1, 0] rfl ?_
          exact zb_X11_melt_36 hE hf
        · refine z_aload_n 0 dX11_melt_19 rfl rfl ?_
          refine z_bipush (-8) (-8) dX11_melt_20 (by decide) ?_
          obtain ⟨v3, ev3, hf⟩ := ob hf
          refine z_cVi (ci := 11) (T := TX11) (N := 14) (As := [.int (-8 : Int32)]) (rest := []) (zm_X11_refuse ev3).2 (zm_X11_refuse ev3).1 (by decide) rfl (Or.inl rfl) mw_7_22 mw_7_23 mw_8_0 mw_1_2 mw_8_1 yk_X11_refuse (by decide) (by decide) rfl (Nat.le_of_ble_eq_true rfl) rfl dX11_melt_22 ?_
          cases hf
          exact z_ireturn hE rfl dX11_melt_25
      · refine z_lv [(0, .ref l0)] [0] rfl ?_
        exact zb_X11_melt_8 hE hf
  · cases hf
set_option maxRecDepth 20000 in
theorem zb_X1_whyUnread_34 {N : Nat} {sh : Sh} {d : Dt} {r : Int32} {E : EV} (hE : TG E (some (.int r)) (sh, d))  {t0 : Int32} (hf : f_X1_whyUnread_34 N sh t0 d = some r) : Z E yX1_whyUnread cX1_whyUnread 3 (some .int) 3 (sh, d) 34 [] [.int t0] := by
  unfold f_X1_whyUnread_34 at hf
  cases hf
  exact z_ireturn hE rfl dX1_whyUnread_34
set_option maxRecDepth 20000 in
theorem zb_X1_whyUnread_28 {N : Nat} {sh : Sh} {d : Dt} {r : Int32} {E : EV} (hE : TG E (some (.int r)) (sh, d))   (hf : f_X1_whyUnread_28 N sh  d = some r) : Z E yX1_whyUnread cX1_whyUnread 3 (some .int) 3 (sh, d) 28 [] [] := by
  unfold f_X1_whyUnread_28 at hf
  refine z_bipush (-5) (-5) dX1_whyUnread_28 (by decide) ?_
  refine z_goto 34 dX1_whyUnread_30 (by decide) ?_
  exact zb_X1_whyUnread_34 hE hf
set_option maxRecDepth 20000 in
theorem zm_X1_whyUnread {N : Nat} {sh : Sh} {d : Dt} {l0 : Nat} {l1 : Int32} {l2 : Int32} {r : Int32} (hf : f_X1_whyUnread N sh l0 l1 l2 d = some r) : isO sh l0 1 ∧ ∀ (l : Launch) (G : GG), Mt l G yX1_whyUnread cX1_whyUnread 3 (some .int) 3 [.ref l0, .int l1, .int l2] (sh, d) (some (.int r)) (sh, d) := by
  have hf0 := hf
  unfold f_X1_whyUnread at hf
  refine ite_d hf (fun hO hf => ?_) (fun _ hf => ?_)
  · refine ⟨hO, fun l G => mt_of (Or.inl (by decide)) (Nat.le_of_ble_eq_true rfl) Le.rf (fun E hE => ?_)⟩
    show Z E yX1_whyUnread cX1_whyUnread 3 (some .int) 3 (sh, d) 0 [(0, .ref l0), (1, .int l1), (2, .int l2)] []
    refine z_aload_n 0 dX1_whyUnread_0 rfl rfl ?_
    refine z_iload_n 1 dX1_whyUnread_1 rfl rfl ?_
    obtain ⟨v1, ev1, hf⟩ := ob hf
    refine z_cVi (ci := 1) (T := TX1) (N := 8) (As := [.int l1]) (rest := []) (zm_X1_isMissing ev1).2 (zm_X1_isMissing ev1).1 (by decide) rfl (Or.inl rfl) mw_22_22 mw_21_18 mw_21_19 mw_1_18 mw_21_20 yk_X1_isMissing (by decide) (by decide) rfl (Nat.le_of_ble_eq_true rfl) rfl dX1_whyUnread_2 ?_
    refine z_if_eq 11 hf dX1_whyUnread_5 (by decide) (fun hf => ?_) (fun hf => ?_)
    · refine z_iload_n 2 dX1_whyUnread_11 rfl rfl ?_
      refine z_if_lt 28 hf dX1_whyUnread_12 (by decide) (fun hf => ?_) (fun hf => ?_)
      · refine z_lv [] [] rfl ?_
        exact zb_X1_whyUnread_28 hE hf
      · refine z_iload_n 2 dX1_whyUnread_15 rfl rfl ?_
        refine z_aload_n 0 dX1_whyUnread_16 rfl rfl ?_
        refine z_gP (ci := 1) (k := 2) (C := RX1) (T := TX1) (N := 8) rfl inlX1 (by decide) mw_3_15 (fun _ _ _ _ h9 => h9) hf (by decide) rfl dX1_whyUnread_17  (fun v2 hf => ?_)
        refine z_iload_n 1 dX1_whyUnread_20 rfl rfl ?_
        refine z_iconst 2 2 dX1_whyUnread_21 (by decide) ?_
        obtain ⟨v3, ev3, hf⟩ := ob hf
        refine z_cVi (ci := 8) (T := TX8) (N := 2) (As := [.int l1, .int (2 : Int32)]) (rest := [.int l2]) (zm_X8_get ev3).2 (zm_X8_get ev3).1 (by decide) rfl (Or.inl rfl) mw_10_10 mw_10_11 mw_10_12 mw_3_13 mw_10_13 yk_X8_get (by decide) (by decide) rfl (Nat.le_of_ble_eq_true rfl) rfl dX1_whyUnread_22 ?_
        refine z_icmp_lt 33 hf dX1_whyUnread_25 (by decide) (fun hf => ?_) (fun hf => ?_)
        · refine z_iconst 0 0 dX1_whyUnread_33 (by decide) ?_
          refine z_lv [] [] rfl ?_
          exact zb_X1_whyUnread_34 hE hf
        · refine z_lv [] [] rfl ?_
          exact zb_X1_whyUnread_28 hE hf
    · refine z_bipush (-4) (-4) dX1_whyUnread_8 (by decide) ?_
      cases hf
      exact z_ireturn hE rfl dX1_whyUnread_10
  · cases hf
