set_option maxRecDepth 20000 in
theorem le_X12_init_207 {N : Nat} {r : AS}   {s : AS} (hf : f_X12_init_207 N  s = some r) : Le s r := by
  unfold f_X12_init_207 at hf
  cases hf
  exact Le.rf
set_option maxRecDepth 20000 in
theorem zb_X12_init_207 {N : Nat} {r : AS} {E : EV} (hE : TG E none r)   {s : AS} (hf : f_X12_init_207 N  s = some r) : Z E yX12_init cX12_init 2 none 1 s 207 [] [] := by
  unfold f_X12_init_207 at hf
  cases hf
  exact z_return hE rfl dX12_init_207
set_option maxRecDepth 20000 in
theorem lg_X12_init_184 {N : Nat} {r : AS} {k184 : Nat → Int32 → AS → Option AS}  (hk184 : ∀ (l0 : Nat) (l1 : Int32) (s : AS), k184 l0 l1 s = some r → Le s r) {l0 : Nat} {l1 : Int32} {s : AS} (hf : g_X12_init_184 N k184 l0 l1 s = some r) : Le s r := by
  unfold g_X12_init_184 at hf
  split at hf
  · exact Le.via (le_X12_init_207 hf) rfl
  · obtain ⟨v43, -, hf⟩ := ob hf
    obtain ⟨d44, -, hf⟩ := ob hf
    exact Le.via (hk184 _ _ _ hf) rfl
set_option maxRecDepth 20000 in
theorem le_X12_init_184 {N : Nat} {r : AS}  : ∀ (n : Nat) (l0 : Nat) (l1 : Int32) (s : AS), f_X12_init_184 N n l0 l1 s = some r → Le s r := by
  intro n
  induction n with
  | zero => intro l0 l1 s hf; cases hf
  | succ n ih => intro l0 l1 s hf; exact lg_X12_init_184 ih hf
set_option maxRecDepth 20000 in
theorem zg_X12_init_184 {N : Nat} {r : AS} {k184 : Nat → Int32 → AS → Option AS} {E : EV} (hE : TG E none r)  (hk184 : ∀ (l0 : Nat) (l1 : Int32) (s : AS), k184 l0 l1 s = some r → Z E yX12_init cX12_init 2 none 1 s 184 [(0, .ref l0), (1, .int l1)] []) {l0 : Nat} {l1 : Int32} {s : AS} (hf : g_X12_init_184 N k184 l0 l1 s = some r) : Z E yX12_init cX12_init 2 none 1 s 184 [(0, .ref l0), (1, .int l1)] [] := by
  unfold g_X12_init_184 at hf
  refine z_iload_n 1 dX12_init_184 rfl rfl ?_
  refine z_bipush 60 60 dX12_init_185 (by decide) ?_
  refine z_icmp_ge 207 hf dX12_init_187 (by decide) (fun hf => ?_) (fun hf => ?_)
  · refine z_lv [] [] rfl ?_
    exact zb_X12_init_207 hE hf
  · refine z_aload_n 0 dX12_init_190 rfl rfl ?_
    refine z_gP (ci := 12) (k := 0) (C := RX12) (T := TX12) (N := 32) rfl inlX12 (by decide) mw_6_19 (fun _ _ _ _ h9 => h9) hf (by decide) rfl dX12_init_191  (fun v43 hf => ?_)
    refine z_sipush 9582 9582 dX12_init_194 (by decide) ?_
    refine z_iload_n 1 dX12_init_197 rfl rfl ?_
    refine z_iadd dX12_init_198 ?_
    refine z_iconst (-1) (-1) dX12_init_199 (by decide) ?_
    refine z_sI hf dX12_init_200  (fun d44 hf => ?_)
    refine z_iinc [(1, .int (l1 + 1)), (0, .ref l0)] 1 (l1 + 1) dX12_init_201 rfl rfl (by decide) rfl ?_
    refine z_goto 184 dX12_init_204 (by decide) ?_
    refine z_lv [(0, .ref l0), (1, .int (l1 + 1))] [1, 0] rfl ?_
    exact hk184 _ _ _ hf
set_option maxRecDepth 20000 in
theorem zb_X12_init_184 {N : Nat} {r : AS} {E : EV} (hE : TG E none r)  : ∀ (n : Nat) (l0 : Nat) (l1 : Int32) (s : AS), f_X12_init_184 N n l0 l1 s = some r → Z E yX12_init cX12_init 2 none 1 s 184 [(0, .ref l0), (1, .int l1)] [] := by
  intro n
  induction n with
  | zero => intro l0 l1 s hf; cases hf
  | succ n ih => intro l0 l1 s hf; exact zg_X12_init_184 hE ih hf
set_option maxRecDepth 20000 in
theorem le_X12_init_182 {N : Nat} {r : AS}  {l0 : Nat} {s : AS} (hf : f_X12_init_182 N l0 s = some r) : Le s r := by
  unfold f_X12_init_182 at hf
  exact Le.via (le_X12_init_184 N _ _ _ hf) rfl
set_option maxRecDepth 20000 in
theorem zb_X12_init_182 {N : Nat} {r : AS} {E : EV} (hE : TG E none r)  {l0 : Nat} {s : AS} (hf : f_X12_init_182 N l0 s = some r) : Z E yX12_init cX12_init 2 none 1 s 182 [(0, .ref l0)] [] := by
  unfold f_X12_init_182 at hf
  refine z_iconst 0 0 dX12_init_182 (by decide) ?_
  refine z_istore_n [(1, .int (0 : Int32)), (0, .ref l0)] dX12_init_183 rfl (by decide) rfl ?_
  refine z_lv [(0, .ref l0), (1, .int (0 : Int32))] [1, 0] rfl ?_
  exact zb_X12_init_184 hE N _ _ _ hf
set_option maxRecDepth 20000 in
theorem le_X12_init_179 {N : Nat} {r : AS}  {l0 : Nat} {t0 : Nat} {t1 : Nat} {s : AS} (hf : f_X12_init_179 N l0 t0 t1 s = some r) : Le s r := by
  unfold f_X12_init_179 at hf
  obtain ⟨s42, es42, hf⟩ := ob hf
  refine Le.of (t := (s.1, s.2)) rfl ((le_pP es42).tr ?_)
  exact Le.via (le_X12_init_182 hf) rfl
set_option maxRecDepth 20000 in
theorem zb_X12_init_179 {N : Nat} {r : AS} {E : EV} (hE : TG E none r)  {l0 : Nat} {t0 : Nat} {t1 : Nat} {s : AS} (hf : f_X12_init_179 N l0 t0 t1 s = some r) : Z E yX12_init cX12_init 2 none 1 s 179 [(0, .ref l0)] [.ref t1, .ref t0] := by
  unfold f_X12_init_179 at hf
  refine z_pP (ci := 12) (k := 31) (C := RX12) (T := TX12) (N := 32) rfl inlX12 (by decide) mw_7_16 (fun _ _ _ _ h9 => h9) tyX12 tyX12_ok nmX12 rfl rfl rfl hf (Or.inl (by decide)) rfl rfl rfl dX12_init_179 (fun s42 es42 hf => ?_)
  exact zb_X12_init_182 hE hf
set_option maxRecDepth 20000 in
theorem le_X12_init_174 {N : Nat} {r : AS}  {l0 : Nat} {s : AS} (hf : f_X12_init_174 N l0 s = some r) : Le s r := by
  unfold f_X12_init_174 at hf
  obtain ⟨s41, es41, hf⟩ := ob hf
  refine Le.of (t := (s.1, s.2)) rfl ((le_nArr es41).tr ?_)
  exact Le.via (le_X12_init_179 hf) rfl
set_option maxRecDepth 20000 in
theorem zb_X12_init_174 {N : Nat} {r : AS} {E : EV} (hE : TG E none r)  {l0 : Nat} {s : AS} (hf : f_X12_init_174 N l0 s = some r) : Z E yX12_init cX12_init 2 none 1 s 174 [(0, .ref l0)] [] := by
  unfold f_X12_init_174 at hf
  refine z_aload_n 0 dX12_init_174 rfl rfl ?_
  refine z_bipush 12 12 dX12_init_175 (by decide) ?_
  refine z_na0 hf (fun _ hf => tg_le hE (le_X12_init_179 hf)) mw_2_13 dX12_init_177 (fun s41 hf => ?_)
  exact zb_X12_init_179 hE hf
set_option maxRecDepth 20000 in
theorem le_X12_init_171 {N : Nat} {r : AS}  {l0 : Nat} {t0 : Nat} {t1 : Nat} {s : AS} (hf : f_X12_init_171 N l0 t0 t1 s = some r) : Le s r := by
  unfold f_X12_init_171 at hf
  obtain ⟨s40, es40, hf⟩ := ob hf
  refine Le.of (t := (s.1, s.2)) rfl ((le_pP es40).tr ?_)
  exact Le.via (le_X12_init_174 hf) rfl
set_option maxRecDepth 20000 in
theorem zb_X12_init_171 {N : Nat} {r : AS} {E : EV} (hE : TG E none r)  {l0 : Nat} {t0 : Nat} {t1 : Nat} {s : AS} (hf : f_X12_init_171 N l0 t0 t1 s = some r) : Z E yX12_init cX12_init 2 none 1 s 171 [(0, .ref l0)] [.ref t1, .ref t0] := by
  unfold f_X12_init_171 at hf
  refine z_pP (ci := 12) (k := 30) (C := RX12) (T := TX12) (N := 32) rfl inlX12 (by decide) mw_7_15 (fun _ _ _ _ h9 => h9) tyX12 tyX12_ok nmX12 rfl rfl rfl hf (Or.inl (by decide)) rfl rfl rfl dX12_init_171 (fun s40 es40 hf => ?_)
  exact zb_X12_init_174 hE hf
set_option maxRecDepth 20000 in
theorem le_X12_init_166 {N : Nat} {r : AS}  {l0 : Nat} {s : AS} (hf : f_X12_init_166 N l0 s = some r) : Le s r := by
  unfold f_X12_init_166 at hf
  obtain ⟨s39, es39, hf⟩ := ob hf
  refine Le.of (t := (s.1, s.2)) rfl ((le_nArr es39).tr ?_)
  exact Le.via (le_X12_init_171 hf) rfl
set_option maxRecDepth 20000 in
theorem zb_X12_init_166 {N : Nat} {r : AS} {E : EV} (hE : TG E none r)  {l0 : Nat} {s : AS} (hf : f_X12_init_166 N l0 s = some r) : Z E yX12_init cX12_init 2 none 1 s 166 [(0, .ref l0)] [] := by
  unfold f_X12_init_166 at hf
  refine z_aload_n 0 dX12_init_166 rfl rfl ?_
  refine z_bipush 12 12 dX12_init_167 (by decide) ?_
  refine z_na0 hf (fun _ hf => tg_le hE (le_X12_init_171 hf)) mw_2_13 dX12_init_169 (fun s39 hf => ?_)
  exact zb_X12_init_171 hE hf
set_option maxRecDepth 20000 in
theorem le_X12_init_163 {N : Nat} {r : AS}  {l0 : Nat} {t0 : Nat} {t1 : Nat} {s : AS} (hf : f_X12_init_163 N l0 t0 t1 s = some r) : Le s r := by
  unfold f_X12_init_163 at hf
  obtain ⟨s38, es38, hf⟩ := ob hf
  refine Le.of (t := (s.1, s.2)) rfl ((le_pP es38).tr ?_)
  exact Le.via (le_X12_init_166 hf) rfl
set_option maxRecDepth 20000 in
theorem zb_X12_init_163 {N : Nat} {r : AS} {E : EV} (hE : TG E none r)  {l0 : Nat} {t0 : Nat} {t1 : Nat} {s : AS} (hf : f_X12_init_163 N l0 t0 t1 s = some r) : Z E yX12_init cX12_init 2 none 1 s 163 [(0, .ref l0)] [.ref t1, .ref t0] := by
  unfold f_X12_init_163 at hf
  refine z_pP (ci := 12) (k := 29) (C := RX12) (T := TX12) (N := 32) rfl inlX12 (by decide) mw_7_14 (fun _ _ _ _ h9 => h9) tyX12 tyX12_ok nmX12 rfl rfl rfl hf (Or.inl (by decide)) rfl rfl rfl dX12_init_163 (fun s38 es38 hf => ?_)
  exact zb_X12_init_166 hE hf
set_option maxRecDepth 20000 in
theorem le_X12_init_158 {N : Nat} {r : AS}  {l0 : Nat} {s : AS} (hf : f_X12_init_158 N l0 s = some r) : Le s r := by
  unfold f_X12_init_158 at hf
  obtain ⟨s37, es37, hf⟩ := ob hf
  refine Le.of (t := (s.1, s.2)) rfl ((le_nArr es37).tr ?_)
  exact Le.via (le_X12_init_163 hf) rfl
set_option maxRecDepth 20000 in
theorem zb_X12_init_158 {N : Nat} {r : AS} {E : EV} (hE : TG E none r)  {l0 : Nat} {s : AS} (hf : f_X12_init_158 N l0 s = some r) : Z E yX12_init cX12_init 2 none 1 s 158 [(0, .ref l0)] [] := by
  unfold f_X12_init_158 at hf
  refine z_aload_n 0 dX12_init_158 rfl rfl ?_
  refine z_bipush 12 12 dX12_init_159 (by decide) ?_
  refine z_na0 hf (fun _ hf => tg_le hE (le_X12_init_163 hf)) mw_2_13 dX12_init_161 (fun s37 hf => ?_)
  exact zb_X12_init_163 hE hf
set_option maxRecDepth 20000 in
theorem le_X12_init_155 {N : Nat} {r : AS}  {l0 : Nat} {t0 : Nat} {t1 : Nat} {s : AS} (hf : f_X12_init_155 N l0 t0 t1 s = some r) : Le s r := by
  unfold f_X12_init_155 at hf
  obtain ⟨s36, es36, hf⟩ := ob hf
  refine Le.of (t := (s.1, s.2)) rfl ((le_pP es36).tr ?_)
  exact Le.via (le_X12_init_158 hf) rfl
set_option maxRecDepth 20000 in
theorem zb_X12_init_155 {N : Nat} {r : AS} {E : EV} (hE : TG E none r)  {l0 : Nat} {t0 : Nat} {t1 : Nat} {s : AS} (hf : f_X12_init_155 N l0 t0 t1 s = some r) : Z E yX12_init cX12_init 2 none 1 s 155 [(0, .ref l0)] [.ref t1, .ref t0] := by
  unfold f_X12_init_155 at hf
  refine z_pP (ci := 12) (k := 28) (C := RX12) (T := TX12) (N := 32) rfl inlX12 (by decide) mw_7_13 (fun _ _ _ _ h9 => h9) tyX12 tyX12_ok nmX12 rfl rfl rfl hf (Or.inl (by decide)) rfl rfl rfl dX12_init_155 (fun s36 es36 hf => ?_)
  exact zb_X12_init_158 hE hf
set_option maxRecDepth 20000 in
theorem le_X12_init_149 {N : Nat} {r : AS}  {l0 : Nat} {s : AS} (hf : f_X12_init_149 N l0 s = some r) : Le s r := by
  unfold f_X12_init_149 at hf
  obtain ⟨s35, es35, hf⟩ := ob hf
  refine Le.of (t := (s.1, s.2)) rfl ((le_nArr es35).tr ?_)
  exact Le.via (le_X12_init_155 hf) rfl
set_option maxRecDepth 20000 in
theorem zb_X12_init_149 {N : Nat} {r : AS} {E : EV} (hE : TG E none r)  {l0 : Nat} {s : AS} (hf : f_X12_init_149 N l0 s = some r) : Z E yX12_init cX12_init 2 none 1 s 149 [(0, .ref l0)] [] := by
  unfold f_X12_init_149 at hf
  refine z_aload_n 0 dX12_init_149 rfl rfl ?_
  refine z_sipush 150 150 dX12_init_150 (by decide) ?_
  refine z_na0 hf (fun _ hf => tg_le hE (le_X12_init_155 hf)) mw_2_13 dX12_init_153 (fun s35 hf => ?_)
  exact zb_X12_init_155 hE hf
set_option maxRecDepth 20000 in
theorem le_X12_init_146 {N : Nat} {r : AS}  {l0 : Nat} {t0 : Nat} {t1 : Nat} {s : AS} (hf : f_X12_init_146 N l0 t0 t1 s = some r) : Le s r := by
  unfold f_X12_init_146 at hf
  obtain ⟨s34, es34, hf⟩ := ob hf
  refine Le.of (t := (s.1, s.2)) rfl ((le_pP es34).tr ?_)
  exact Le.via (le_X12_init_149 hf) rfl
set_option maxRecDepth 20000 in
theorem zb_X12_init_146 {N : Nat} {r : AS} {E : EV} (hE : TG E none r)  {l0 : Nat} {t0 : Nat} {t1 : Nat} {s : AS} (hf : f_X12_init_146 N l0 t0 t1 s = some r) : Z E yX12_init cX12_init 2 none 1 s 146 [(0, .ref l0)] [.ref t1, .ref t0] := by
  unfold f_X12_init_146 at hf
  refine z_pP (ci := 12) (k := 27) (C := RX12) (T := TX12) (N := 32) rfl inlX12 (by decide) mw_7_12 (fun _ _ _ _ h9 => h9) tyX12 tyX12_ok nmX12 rfl rfl rfl hf (Or.inl (by decide)) rfl rfl rfl dX12_init_146 (fun s34 es34 hf => ?_)
  exact zb_X12_init_149 hE hf
set_option maxRecDepth 20000 in
theorem le_X12_init_140 {N : Nat} {r : AS}  {l0 : Nat} {s : AS} (hf : f_X12_init_140 N l0 s = some r) : Le s r := by
  unfold f_X12_init_140 at hf
  obtain ⟨s33, es33, hf⟩ := ob hf
  refine Le.of (t := (s.1, s.2)) rfl ((le_nArr es33).tr ?_)
  exact Le.via (le_X12_init_146 hf) rfl
set_option maxRecDepth 20000 in
theorem zb_X12_init_140 {N : Nat} {r : AS} {E : EV} (hE : TG E none r)  {l0 : Nat} {s : AS} (hf : f_X12_init_140 N l0 s = some r) : Z E yX12_init cX12_init 2 none 1 s 140 [(0, .ref l0)] [] := by
  unfold f_X12_init_140 at hf
  refine z_aload_n 0 dX12_init_140 rfl rfl ?_
  refine z_sipush 2000 2000 dX12_init_141 (by decide) ?_
  refine z_na0 hf (fun _ hf => tg_le hE (le_X12_init_146 hf)) mw_2_13 dX12_init_144 (fun s33 hf => ?_)
  exact zb_X12_init_146 hE hf
set_option maxRecDepth 20000 in
theorem le_X12_init_137 {N : Nat} {r : AS}  {l0 : Nat} {t0 : Nat} {t1 : Nat} {s : AS} (hf : f_X12_init_137 N l0 t0 t1 s = some r) : Le s r := by
  unfold f_X12_init_137 at hf
  obtain ⟨s32, es32, hf⟩ := ob hf
  refine Le.of (t := (s.1, s.2)) rfl ((le_pP es32).tr ?_)
  exact Le.via (le_X12_init_140 hf) rfl
set_option maxRecDepth 20000 in
theorem zb_X12_init_137 {N : Nat} {r : AS} {E : EV} (hE : TG E none r)  {l0 : Nat} {t0 : Nat} {t1 : Nat} {s : AS} (hf : f_X12_init_137 N l0 t0 t1 s = some r) : Z E yX12_init cX12_init 2 none 1 s 137 [(0, .ref l0)] [.ref t1, .ref t0] := by
  unfold f_X12_init_137 at hf
  refine z_pP (ci := 12) (k := 26) (C := RX12) (T := TX12) (N := 32) rfl inlX12 (by decide) mw_7_11 (fun _ _ _ _ h9 => h9) tyX12 tyX12_ok nmX12 rfl rfl rfl hf (Or.inl (by decide)) rfl rfl rfl dX12_init_137 (fun s32 es32 hf => ?_)
  exact zb_X12_init_140 hE hf
set_option maxRecDepth 20000 in
theorem le_X12_init_131 {N : Nat} {r : AS}  {l0 : Nat} {s : AS} (hf : f_X12_init_131 N l0 s = some r) : Le s r := by
  unfold f_X12_init_131 at hf
  obtain ⟨s31, es31, hf⟩ := ob hf
  refine Le.of (t := (s.1, s.2)) rfl ((le_nArr es31).tr ?_)
  exact Le.via (le_X12_init_137 hf) rfl
set_option maxRecDepth 20000 in
theorem zb_X12_init_131 {N : Nat} {r : AS} {E : EV} (hE : TG E none r)  {l0 : Nat} {s : AS} (hf : f_X12_init_131 N l0 s = some r) : Z E yX12_init cX12_init 2 none 1 s 131 [(0, .ref l0)] [] := by
  unfold f_X12_init_131 at hf
  refine z_aload_n 0 dX12_init_131 rfl rfl ?_
  refine z_sipush 2000 2000 dX12_init_132 (by decide) ?_
  refine z_na0 hf (fun _ hf => tg_le hE (le_X12_init_137 hf)) mw_2_13 dX12_init_135 (fun s31 hf => ?_)
  exact zb_X12_init_137 hE hf
set_option maxRecDepth 20000 in
theorem le_X12_init_128 {N : Nat} {r : AS}  {l0 : Nat} {t0 : Nat} {t1 : Nat} {s : AS} (hf : f_X12_init_128 N l0 t0 t1 s = some r) : Le s r := by
  unfold f_X12_init_128 at hf
  obtain ⟨s30, es30, hf⟩ := ob hf
  refine Le.of (t := (s.1, s.2)) rfl ((le_pP es30).tr ?_)
  exact Le.via (le_X12_init_131 hf) rfl
set_option maxRecDepth 20000 in
theorem zb_X12_init_128 {N : Nat} {r : AS} {E : EV} (hE : TG E none r)  {l0 : Nat} {t0 : Nat} {t1 : Nat} {s : AS} (hf : f_X12_init_128 N l0 t0 t1 s = some r) : Z E yX12_init cX12_init 2 none 1 s 128 [(0, .ref l0)] [.ref t1, .ref t0] := by
  unfold f_X12_init_128 at hf
  refine z_pP (ci := 12) (k := 25) (C := RX12) (T := TX12) (N := 32) rfl inlX12 (by decide) mw_7_10 (fun _ _ _ _ h9 => h9) tyX12 tyX12_ok nmX12 rfl rfl rfl hf (Or.inl (by decide)) rfl rfl rfl dX12_init_128 (fun s30 es30 hf => ?_)
  exact zb_X12_init_131 hE hf
set_option maxRecDepth 20000 in
theorem le_X12_init_122 {N : Nat} {r : AS}  {l0 : Nat} {s : AS} (hf : f_X12_init_122 N l0 s = some r) : Le s r := by
  unfold f_X12_init_122 at hf
  obtain ⟨s29, es29, hf⟩ := ob hf
  refine Le.of (t := (s.1, s.2)) rfl ((le_nArr es29).tr ?_)
  exact Le.via (le_X12_init_128 hf) rfl
set_option maxRecDepth 20000 in
theorem zb_X12_init_122 {N : Nat} {r : AS} {E : EV} (hE : TG E none r)  {l0 : Nat} {s : AS} (hf : f_X12_init_122 N l0 s = some r) : Z E yX12_init cX12_init 2 none 1 s 122 [(0, .ref l0)] [] := by
  unfold f_X12_init_122 at hf
  refine z_aload_n 0 dX12_init_122 rfl rfl ?_
  refine z_sipush 2000 2000 dX12_init_123 (by decide) ?_
  refine z_na0 hf (fun _ hf => tg_le hE (le_X12_init_128 hf)) mw_2_13 dX12_init_126 (fun s29 hf => ?_)
  exact zb_X12_init_128 hE hf
set_option maxRecDepth 20000 in
theorem le_X12_init_119 {N : Nat} {r : AS}  {l0 : Nat} {t0 : Nat} {t1 : Nat} {s : AS} (hf : f_X12_init_119 N l0 t0 t1 s = some r) : Le s r := by
  unfold f_X12_init_119 at hf
  obtain ⟨s28, es28, hf⟩ := ob hf
  refine Le.of (t := (s.1, s.2)) rfl ((le_pP es28).tr ?_)
  exact Le.via (le_X12_init_122 hf) rfl
set_option maxRecDepth 20000 in
theorem zb_X12_init_119 {N : Nat} {r : AS} {E : EV} (hE : TG E none r)  {l0 : Nat} {t0 : Nat} {t1 : Nat} {s : AS} (hf : f_X12_init_119 N l0 t0 t1 s = some r) : Z E yX12_init cX12_init 2 none 1 s 119 [(0, .ref l0)] [.ref t1, .ref t0] := by
  unfold f_X12_init_119 at hf
  refine z_pP (ci := 12) (k := 23) (C := RX12) (T := TX12) (N := 32) rfl inlX12 (by decide) mw_7_9 (fun _ _ _ _ h9 => h9) tyX12 tyX12_ok nmX12 rfl rfl rfl hf (Or.inl (by decide)) rfl rfl rfl dX12_init_119 (fun s28 es28 hf => ?_)
  exact zb_X12_init_122 hE hf
set_option maxRecDepth 20000 in
theorem le_X12_init_114 {N : Nat} {r : AS}  {l0 : Nat} {s : AS} (hf : f_X12_init_114 N l0 s = some r) : Le s r := by
  unfold f_X12_init_114 at hf
  obtain ⟨s27, es27, hf⟩ := ob hf
  refine Le.of (t := (s.1, s.2)) rfl ((le_nArr es27).tr ?_)
  exact Le.via (le_X12_init_119 hf) rfl
set_option maxRecDepth 20000 in
theorem zb_X12_init_114 {N : Nat} {r : AS} {E : EV} (hE : TG E none r)  {l0 : Nat} {s : AS} (hf : f_X12_init_114 N l0 s = some r) : Z E yX12_init cX12_init 2 none 1 s 114 [(0, .ref l0)] [] := by
  unfold f_X12_init_114 at hf
  refine z_aload_n 0 dX12_init_114 rfl rfl ?_
  refine z_bipush 30 30 dX12_init_115 (by decide) ?_
  refine z_na0 hf (fun _ hf => tg_le hE (le_X12_init_119 hf)) mw_2_13 dX12_init_117 (fun s27 hf => ?_)
  exact zb_X12_init_119 hE hf
set_option maxRecDepth 20000 in
theorem le_X12_init_111 {N : Nat} {r : AS}  {l0 : Nat} {t0 : Nat} {t1 : Nat} {s : AS} (hf : f_X12_init_111 N l0 t0 t1 s = some r) : Le s r := by
  unfold f_X12_init_111 at hf
  obtain ⟨s26, es26, hf⟩ := ob hf
  refine Le.of (t := (s.1, s.2)) rfl ((le_pP es26).tr ?_)
  exact Le.via (le_X12_init_114 hf) rfl
set_option maxRecDepth 20000 in
theorem zb_X12_init_111 {N : Nat} {r : AS} {E : EV} (hE : TG E none r)  {l0 : Nat} {t0 : Nat} {t1 : Nat} {s : AS} (hf : f_X12_init_111 N l0 t0 t1 s = some r) : Z E yX12_init cX12_init 2 none 1 s 111 [(0, .ref l0)] [.ref t1, .ref t0] := by
  unfold f_X12_init_111 at hf
  refine z_pP (ci := 12) (k := 22) (C := RX12) (T := TX12) (N := 32) rfl inlX12 (by decide) mw_7_8 (fun _ _ _ _ h9 => h9) tyX12 tyX12_ok nmX12 rfl rfl rfl hf (Or.inl (by decide)) rfl rfl rfl dX12_init_111 (fun s26 es26 hf => ?_)
  exact zb_X12_init_114 hE hf
set_option maxRecDepth 20000 in
theorem le_X12_init_106 {N : Nat} {r : AS}  {l0 : Nat} {s : AS} (hf : f_X12_init_106 N l0 s = some r) : Le s r := by
  unfold f_X12_init_106 at hf
  obtain ⟨s25, es25, hf⟩ := ob hf
  refine Le.of (t := (s.1, s.2)) rfl ((le_nArr es25).tr ?_)
  exact Le.via (le_X12_init_111 hf) rfl
set_option maxRecDepth 20000 in
theorem zb_X12_init_106 {N : Nat} {r : AS} {E : EV} (hE : TG E none r)  {l0 : Nat} {s : AS} (hf : f_X12_init_106 N l0 s = some r) : Z E yX12_init cX12_init 2 none 1 s 106 [(0, .ref l0)] [] := by
  unfold f_X12_init_106 at hf
  refine z_aload_n 0 dX12_init_106 rfl rfl ?_
  refine z_bipush 30 30 dX12_init_107 (by decide) ?_
  refine z_na0 hf (fun _ hf => tg_le hE (le_X12_init_111 hf)) mw_2_13 dX12_init_109 (fun s25 hf => ?_)
  exact zb_X12_init_111 hE hf
set_option maxRecDepth 20000 in
theorem le_X12_init_103 {N : Nat} {r : AS}  {l0 : Nat} {t0 : Nat} {t1 : Nat} {s : AS} (hf : f_X12_init_103 N l0 t0 t1 s = some r) : Le s r := by
  unfold f_X12_init_103 at hf
  obtain ⟨s24, es24, hf⟩ := ob hf
  refine Le.of (t := (s.1, s.2)) rfl ((le_pP es24).tr ?_)
  exact Le.via (le_X12_init_106 hf) rfl
set_option maxRecDepth 20000 in
theorem zb_X12_init_103 {N : Nat} {r : AS} {E : EV} (hE : TG E none r)  {l0 : Nat} {t0 : Nat} {t1 : Nat} {s : AS} (hf : f_X12_init_103 N l0 t0 t1 s = some r) : Z E yX12_init cX12_init 2 none 1 s 103 [(0, .ref l0)] [.ref t1, .ref t0] := by
  unfold f_X12_init_103 at hf
  refine z_pP (ci := 12) (k := 18) (C := RX12) (T := TX12) (N := 32) rfl inlX12 (by decide) mw_7_7 (fun _ _ _ _ h9 => h9) tyX12 tyX12_ok nmX12 rfl rfl rfl hf (Or.inl (by decide)) rfl rfl rfl dX12_init_103 (fun s24 es24 hf => ?_)
  exact zb_X12_init_106 hE hf
set_option maxRecDepth 20000 in
theorem le_X12_init_97 {N : Nat} {r : AS}  {l0 : Nat} {s : AS} (hf : f_X12_init_97 N l0 s = some r) : Le s r := by
  unfold f_X12_init_97 at hf
  obtain ⟨s23, es23, hf⟩ := ob hf
  refine Le.of (t := (s.1, s.2)) rfl ((le_nArr es23).tr ?_)
  exact Le.via (le_X12_init_103 hf) rfl
set_option maxRecDepth 20000 in
theorem zb_X12_init_97 {N : Nat} {r : AS} {E : EV} (hE : TG E none r)  {l0 : Nat} {s : AS} (hf : f_X12_init_97 N l0 s = some r) : Z E yX12_init cX12_init 2 none 1 s 97 [(0, .ref l0)] [] := by
  unfold f_X12_init_97 at hf
  refine z_aload_n 0 dX12_init_97 rfl rfl ?_
  refine z_sipush 16384 16384 dX12_init_98 (by decide) ?_
  refine z_na0 hf (fun _ hf => tg_le hE (le_X12_init_103 hf)) mw_2_13 dX12_init_101 (fun s23 hf => ?_)
  exact zb_X12_init_103 hE hf
set_option maxRecDepth 20000 in
theorem le_X12_init_94 {N : Nat} {r : AS}  {l0 : Nat} {t0 : Nat} {t1 : Nat} {s : AS} (hf : f_X12_init_94 N l0 t0 t1 s = some r) : Le s r := by
  unfold f_X12_init_94 at hf
  obtain ⟨s22, es22, hf⟩ := ob hf
  refine Le.of (t := (s.1, s.2)) rfl ((le_pP es22).tr ?_)
  exact Le.via (le_X12_init_97 hf) rfl
set_option maxRecDepth 20000 in
theorem zb_X12_init_94 {N : Nat} {r : AS} {E : EV} (hE : TG E none r)  {l0 : Nat} {t0 : Nat} {t1 : Nat} {s : AS} (hf : f_X12_init_94 N l0 t0 t1 s = some r) : Z E yX12_init cX12_init 2 none 1 s 94 [(0, .ref l0)] [.ref t1, .ref t0] := by
  unfold f_X12_init_94 at hf
  refine z_pP (ci := 12) (k := 17) (C := RX12) (T := TX12) (N := 32) rfl inlX12 (by decide) mw_7_6 (fun _ _ _ _ h9 => h9) tyX12 tyX12_ok nmX12 rfl rfl rfl hf (Or.inl (by decide)) rfl rfl rfl dX12_init_94 (fun s22 es22 hf => ?_)
  exact zb_X12_init_97 hE hf
set_option maxRecDepth 20000 in
theorem le_X12_init_89 {N : Nat} {r : AS}  {l0 : Nat} {s : AS} (hf : f_X12_init_89 N l0 s = some r) : Le s r := by
  unfold f_X12_init_89 at hf
  obtain ⟨s21, es21, hf⟩ := ob hf
  refine Le.of (t := (s.1, s.2)) rfl ((le_nArr es21).tr ?_)
  exact Le.via (le_X12_init_94 hf) rfl
set_option maxRecDepth 20000 in
theorem zb_X12_init_89 {N : Nat} {r : AS} {E : EV} (hE : TG E none r)  {l0 : Nat} {s : AS} (hf : f_X12_init_89 N l0 s = some r) : Z E yX12_init cX12_init 2 none 1 s 89 [(0, .ref l0)] [] := by
  unfold f_X12_init_89 at hf
  refine z_aload_n 0 dX12_init_89 rfl rfl ?_
  refine z_bipush 60 60 dX12_init_90 (by decide) ?_
  refine z_na4 hf (fun _ hf => tg_le hE (le_X12_init_94 hf)) mw_7_1 dX12_init_92 (fun s21 hf => ?_)
  exact zb_X12_init_94 hE hf
set_option maxRecDepth 20000 in
theorem le_X12_init_86 {N : Nat} {r : AS}  {l0 : Nat} {t0 : Nat} {t1 : Nat} {s : AS} (hf : f_X12_init_86 N l0 t0 t1 s = some r) : Le s r := by
  unfold f_X12_init_86 at hf
  obtain ⟨s20, es20, hf⟩ := ob hf
  refine Le.of (t := (s.1, s.2)) rfl ((le_pP es20).tr ?_)
  exact Le.via (le_X12_init_89 hf) rfl
set_option maxRecDepth 20000 in
theorem zb_X12_init_86 {N : Nat} {r : AS} {E : EV} (hE : TG E none r)  {l0 : Nat} {t0 : Nat} {t1 : Nat} {s : AS} (hf : f_X12_init_86 N l0 t0 t1 s = some r) : Z E yX12_init cX12_init 2 none 1 s 86 [(0, .ref l0)] [.ref t1, .ref t0] := by
  unfold f_X12_init_86 at hf
  refine z_pP (ci := 12) (k := 15) (C := RX12) (T := TX12) (N := 32) rfl inlX12 (by decide) mw_7_5 (fun _ _ _ _ h9 => h9) tyX12 tyX12_ok nmX12 rfl rfl rfl hf (Or.inl (by decide)) rfl rfl rfl dX12_init_86 (fun s20 es20 hf => ?_)
  exact zb_X12_init_89 hE hf
set_option maxRecDepth 20000 in
theorem le_X12_init_81 {N : Nat} {r : AS}  {l0 : Nat} {s : AS} (hf : f_X12_init_81 N l0 s = some r) : Le s r := by
  unfold f_X12_init_81 at hf
  obtain ⟨s19, es19, hf⟩ := ob hf
  refine Le.of (t := (s.1, s.2)) rfl ((le_nArr es19).tr ?_)
  exact Le.via (le_X12_init_86 hf) rfl
set_option maxRecDepth 20000 in
theorem zb_X12_init_81 {N : Nat} {r : AS} {E : EV} (hE : TG E none r)  {l0 : Nat} {s : AS} (hf : f_X12_init_81 N l0 s = some r) : Z E yX12_init cX12_init 2 none 1 s 81 [(0, .ref l0)] [] := by
  unfold f_X12_init_81 at hf
  refine z_aload_n 0 dX12_init_81 rfl rfl ?_
  refine z_bipush 60 60 dX12_init_82 (by decide) ?_
  refine z_na0 hf (fun _ hf => tg_le hE (le_X12_init_86 hf)) mw_2_13 dX12_init_84 (fun s19 hf => ?_)
  exact zb_X12_init_86 hE hf
set_option maxRecDepth 20000 in
theorem le_X12_init_78 {N : Nat} {r : AS}  {l0 : Nat} {t0 : Nat} {t1 : Nat} {s : AS} (hf : f_X12_init_78 N l0 t0 t1 s = some r) : Le s r := by
  unfold f_X12_init_78 at hf
  obtain ⟨s18, es18, hf⟩ := ob hf
  refine Le.of (t := (s.1, s.2)) rfl ((le_pP es18).tr ?_)
  exact Le.via (le_X12_init_81 hf) rfl
set_option maxRecDepth 20000 in
theorem zb_X12_init_78 {N : Nat} {r : AS} {E : EV} (hE : TG E none r)  {l0 : Nat} {t0 : Nat} {t1 : Nat} {s : AS} (hf : f_X12_init_78 N l0 t0 t1 s = some r) : Z E yX12_init cX12_init 2 none 1 s 78 [(0, .ref l0)] [.ref t1, .ref t0] := by
  unfold f_X12_init_78 at hf
  refine z_pP (ci := 12) (k := 14) (C := RX12) (T := TX12) (N := 32) rfl inlX12 (by decide) mw_7_4 (fun _ _ _ _ h9 => h9) tyX12 tyX12_ok nmX12 rfl rfl rfl hf (Or.inl (by decide)) rfl rfl rfl dX12_init_78 (fun s18 es18 hf => ?_)
  exact zb_X12_init_81 hE hf
set_option maxRecDepth 20000 in
theorem le_X12_init_72 {N : Nat} {r : AS}  {l0 : Nat} {s : AS} (hf : f_X12_init_72 N l0 s = some r) : Le s r := by
  unfold f_X12_init_72 at hf
  obtain ⟨s17, es17, hf⟩ := ob hf
  refine Le.of (t := (s.1, s.2)) rfl ((le_nArr es17).tr ?_)
  exact Le.via (le_X12_init_78 hf) rfl
set_option maxRecDepth 20000 in
theorem zb_X12_init_72 {N : Nat} {r : AS} {E : EV} (hE : TG E none r)  {l0 : Nat} {s : AS} (hf : f_X12_init_72 N l0 s = some r) : Z E yX12_init cX12_init 2 none 1 s 72 [(0, .ref l0)] [] := by
  unfold f_X12_init_72 at hf
  refine z_aload_n 0 dX12_init_72 rfl rfl ?_
  refine z_sipush 150 150 dX12_init_73 (by decide) ?_
  refine z_na0 hf (fun _ hf => tg_le hE (le_X12_init_78 hf)) mw_2_13 dX12_init_76 (fun s17 hf => ?_)
  exact zb_X12_init_78 hE hf
set_option maxRecDepth 20000 in
theorem le_X12_init_69 {N : Nat} {r : AS}  {l0 : Nat} {t0 : Nat} {t1 : Nat} {s : AS} (hf : f_X12_init_69 N l0 t0 t1 s = some r) : Le s r := by
  unfold f_X12_init_69 at hf
  obtain ⟨s16, es16, hf⟩ := ob hf
  refine Le.of (t := (s.1, s.2)) rfl ((le_pP es16).tr ?_)
  exact Le.via (le_X12_init_72 hf) rfl
set_option maxRecDepth 20000 in
theorem zb_X12_init_69 {N : Nat} {r : AS} {E : EV} (hE : TG E none r)  {l0 : Nat} {t0 : Nat} {t1 : Nat} {s : AS} (hf : f_X12_init_69 N l0 t0 t1 s = some r) : Z E yX12_init cX12_init 2 none 1 s 69 [(0, .ref l0)] [.ref t1, .ref t0] := by
  unfold f_X12_init_69 at hf
  refine z_pP (ci := 12) (k := 13) (C := RX12) (T := TX12) (N := 32) rfl inlX12 (by decide) mw_7_3 (fun _ _ _ _ h9 => h9) tyX12 tyX12_ok nmX12 rfl rfl rfl hf (Or.inl (by decide)) rfl rfl rfl dX12_init_69 (fun s16 es16 hf => ?_)
  exact zb_X12_init_72 hE hf
set_option maxRecDepth 20000 in
theorem le_X12_init_64 {N : Nat} {r : AS}  {l0 : Nat} {s : AS} (hf : f_X12_init_64 N l0 s = some r) : Le s r := by
  unfold f_X12_init_64 at hf
  obtain ⟨s15, es15, hf⟩ := ob hf
  refine Le.of (t := (s.1, s.2)) rfl ((le_nArr es15).tr ?_)
  exact Le.via (le_X12_init_69 hf) rfl
set_option maxRecDepth 20000 in
theorem zb_X12_init_64 {N : Nat} {r : AS} {E : EV} (hE : TG E none r)  {l0 : Nat} {s : AS} (hf : f_X12_init_64 N l0 s = some r) : Z E yX12_init cX12_init 2 none 1 s 64 [(0, .ref l0)] [] := by
  unfold f_X12_init_64 at hf
  refine z_aload_n 0 dX12_init_64 rfl rfl ?_
  refine z_bipush 20 20 dX12_init_65 (by decide) ?_
  refine z_na2 hf (fun _ hf => tg_le hE (le_X12_init_69 hf)) mw_2_11 dX12_init_67 (fun s15 hf => ?_)
  exact zb_X12_init_69 hE hf
set_option maxRecDepth 20000 in
theorem le_X12_init_61 {N : Nat} {r : AS}  {l0 : Nat} {t0 : Nat} {t1 : Nat} {s : AS} (hf : f_X12_init_61 N l0 t0 t1 s = some r) : Le s r := by
  unfold f_X12_init_61 at hf
  obtain ⟨s14, es14, hf⟩ := ob hf
  refine Le.of (t := (s.1, s.2)) rfl ((le_pP es14).tr ?_)
  exact Le.via (le_X12_init_64 hf) rfl
set_option maxRecDepth 20000 in
theorem zb_X12_init_61 {N : Nat} {r : AS} {E : EV} (hE : TG E none r)  {l0 : Nat} {t0 : Nat} {t1 : Nat} {s : AS} (hf : f_X12_init_61 N l0 t0 t1 s = some r) : Z E yX12_init cX12_init 2 none 1 s 61 [(0, .ref l0)] [.ref t1, .ref t0] := by
  unfold f_X12_init_61 at hf
  refine z_pP (ci := 12) (k := 12) (C := RX12) (T := TX12) (N := 32) rfl inlX12 (by decide) mw_7_2 (fun _ _ _ _ h9 => h9) tyX12 tyX12_ok nmX12 rfl rfl rfl hf (Or.inl (by decide)) rfl rfl rfl dX12_init_61 (fun s14 es14 hf => ?_)
  exact zb_X12_init_64 hE hf
set_option maxRecDepth 20000 in
theorem le_X12_init_56 {N : Nat} {r : AS}  {l0 : Nat} {s : AS} (hf : f_X12_init_56 N l0 s = some r) : Le s r := by
  unfold f_X12_init_56 at hf
  obtain ⟨s13, es13, hf⟩ := ob hf
  refine Le.of (t := (s.1, s.2)) rfl ((le_nArr es13).tr ?_)
  exact Le.via (le_X12_init_61 hf) rfl
set_option maxRecDepth 20000 in
theorem zb_X12_init_56 {N : Nat} {r : AS} {E : EV} (hE : TG E none r)  {l0 : Nat} {s : AS} (hf : f_X12_init_56 N l0 s = some r) : Z E yX12_init cX12_init 2 none 1 s 56 [(0, .ref l0)] [] := by
  unfold f_X12_init_56 at hf
  refine z_aload_n 0 dX12_init_56 rfl rfl ?_
  refine z_bipush 20 20 dX12_init_57 (by decide) ?_
  refine z_na4 hf (fun _ hf => tg_le hE (le_X12_init_61 hf)) mw_7_1 dX12_init_59 (fun s13 hf => ?_)
  exact zb_X12_init_61 hE hf
set_option maxRecDepth 20000 in
theorem le_X12_init_53 {N : Nat} {r : AS}  {l0 : Nat} {t0 : Nat} {t1 : Nat} {s : AS} (hf : f_X12_init_53 N l0 t0 t1 s = some r) : Le s r := by
  unfold f_X12_init_53 at hf
  obtain ⟨s12, es12, hf⟩ := ob hf
  refine Le.of (t := (s.1, s.2)) rfl ((le_pP es12).tr ?_)
  exact Le.via (le_X12_init_56 hf) rfl
set_option maxRecDepth 20000 in
theorem zb_X12_init_53 {N : Nat} {r : AS} {E : EV} (hE : TG E none r)  {l0 : Nat} {t0 : Nat} {t1 : Nat} {s : AS} (hf : f_X12_init_53 N l0 t0 t1 s = some r) : Z E yX12_init cX12_init 2 none 1 s 53 [(0, .ref l0)] [.ref t1, .ref t0] := by
  unfold f_X12_init_53 at hf
  refine z_pP (ci := 12) (k := 11) (C := RX12) (T := TX12) (N := 32) rfl inlX12 (by decide) mw_7_0 (fun _ _ _ _ h9 => h9) tyX12 tyX12_ok nmX12 rfl rfl rfl hf (Or.inl (by decide)) rfl rfl rfl dX12_init_53 (fun s12 es12 hf => ?_)
  exact zb_X12_init_56 hE hf
set_option maxRecDepth 20000 in
theorem le_X12_init_47 {N : Nat} {r : AS}  {l0 : Nat} {s : AS} (hf : f_X12_init_47 N l0 s = some r) : Le s r := by
  unfold f_X12_init_47 at hf
  obtain ⟨s11, es11, hf⟩ := ob hf
  refine Le.of (t := (s.1, s.2)) rfl ((le_nArr es11).tr ?_)
  exact Le.via (le_X12_init_53 hf) rfl
set_option maxRecDepth 20000 in
theorem zb_X12_init_47 {N : Nat} {r : AS} {E : EV} (hE : TG E none r)  {l0 : Nat} {s : AS} (hf : f_X12_init_47 N l0 s = some r) : Z E yX12_init cX12_init 2 none 1 s 47 [(0, .ref l0)] [] := by
  unfold f_X12_init_47 at hf
  refine z_aload_n 0 dX12_init_47 rfl rfl ?_
  refine z_sipush 400 400 dX12_init_48 (by decide) ?_
  refine z_na0 hf (fun _ hf => tg_le hE (le_X12_init_53 hf)) mw_2_13 dX12_init_51 (fun s11 hf => ?_)
  exact zb_X12_init_53 hE hf
set_option maxRecDepth 20000 in
theorem le_X12_init_44 {N : Nat} {r : AS}  {l0 : Nat} {t0 : Nat} {t1 : Nat} {s : AS} (hf : f_X12_init_44 N l0 t0 t1 s = some r) : Le s r := by
  unfold f_X12_init_44 at hf
  obtain ⟨s10, es10, hf⟩ := ob hf
  refine Le.of (t := (s.1, s.2)) rfl ((le_pP es10).tr ?_)
  exact Le.via (le_X12_init_47 hf) rfl
set_option maxRecDepth 20000 in
theorem zb_X12_init_44 {N : Nat} {r : AS} {E : EV} (hE : TG E none r)  {l0 : Nat} {t0 : Nat} {t1 : Nat} {s : AS} (hf : f_X12_init_44 N l0 t0 t1 s = some r) : Z E yX12_init cX12_init 2 none 1 s 44 [(0, .ref l0)] [.ref t1, .ref t0] := by
  unfold f_X12_init_44 at hf
  refine z_pP (ci := 12) (k := 9) (C := RX12) (T := TX12) (N := 32) rfl inlX12 (by decide) mw_6_23 (fun _ _ _ _ h9 => h9) tyX12 tyX12_ok nmX12 rfl rfl rfl hf (Or.inl (by decide)) rfl rfl rfl dX12_init_44 (fun s10 es10 hf => ?_)
  exact zb_X12_init_47 hE hf
set_option maxRecDepth 20000 in
theorem le_X12_init_38 {N : Nat} {r : AS}  {l0 : Nat} {s : AS} (hf : f_X12_init_38 N l0 s = some r) : Le s r := by
  unfold f_X12_init_38 at hf
  obtain ⟨s9, es9, hf⟩ := ob hf
  refine Le.of (t := (s.1, s.2)) rfl ((le_nArr es9).tr ?_)
  exact Le.via (le_X12_init_44 hf) rfl
set_option maxRecDepth 20000 in
theorem zb_X12_init_38 {N : Nat} {r : AS} {E : EV} (hE : TG E none r)  {l0 : Nat} {s : AS} (hf : f_X12_init_38 N l0 s = some r) : Z E yX12_init cX12_init 2 none 1 s 38 [(0, .ref l0)] [] := by
  unfold f_X12_init_38 at hf
  refine z_aload_n 0 dX12_init_38 rfl rfl ?_
  refine z_sipush 3600 3600 dX12_init_39 (by decide) ?_
  refine z_na0 hf (fun _ hf => tg_le hE (le_X12_init_44 hf)) mw_2_13 dX12_init_42 (fun s9 hf => ?_)
  exact zb_X12_init_44 hE hf
set_option maxRecDepth 20000 in
theorem le_X12_init_35 {N : Nat} {r : AS}  {l0 : Nat} {t0 : Nat} {t1 : Nat} {s : AS} (hf : f_X12_init_35 N l0 t0 t1 s = some r) : Le s r := by
  unfold f_X12_init_35 at hf
  obtain ⟨s8, es8, hf⟩ := ob hf
  refine Le.of (t := (s.1, s.2)) rfl ((le_pP es8).tr ?_)
  exact Le.via (le_X12_init_38 hf) rfl
set_option maxRecDepth 20000 in
theorem zb_X12_init_35 {N : Nat} {r : AS} {E : EV} (hE : TG E none r)  {l0 : Nat} {t0 : Nat} {t1 : Nat} {s : AS} (hf : f_X12_init_35 N l0 t0 t1 s = some r) : Z E yX12_init cX12_init 2 none 1 s 35 [(0, .ref l0)] [.ref t1, .ref t0] := by
  unfold f_X12_init_35 at hf
  refine z_pP (ci := 12) (k := 7) (C := RX12) (T := TX12) (N := 32) rfl inlX12 (by decide) mw_6_22 (fun _ _ _ _ h9 => h9) tyX12 tyX12_ok nmX12 rfl rfl rfl hf (Or.inl (by decide)) rfl rfl rfl dX12_init_35 (fun s8 es8 hf => ?_)
  exact zb_X12_init_38 hE hf
set_option maxRecDepth 20000 in
theorem le_X12_init_29 {N : Nat} {r : AS}  {l0 : Nat} {s : AS} (hf : f_X12_init_29 N l0 s = some r) : Le s r := by
  unfold f_X12_init_29 at hf
  obtain ⟨s7, es7, hf⟩ := ob hf
  refine Le.of (t := (s.1, s.2)) rfl ((le_nArr es7).tr ?_)
  exact Le.via (le_X12_init_35 hf) rfl
set_option maxRecDepth 20000 in
theorem zb_X12_init_29 {N : Nat} {r : AS} {E : EV} (hE : TG E none r)  {l0 : Nat} {s : AS} (hf : f_X12_init_29 N l0 s = some r) : Z E yX12_init cX12_init 2 none 1 s 29 [(0, .ref l0)] [] := by
  unfold f_X12_init_29 at hf
  refine z_aload_n 0 dX12_init_29 rfl rfl ?_
  refine z_sipush 8000 8000 dX12_init_30 (by decide) ?_
  refine z_na3 hf (fun _ hf => tg_le hE (le_X12_init_35 hf)) mw_2_17 dX12_init_33 (fun s7 hf => ?_)
  exact zb_X12_init_35 hE hf
set_option maxRecDepth 20000 in
theorem le_X12_init_26 {N : Nat} {r : AS}  {l0 : Nat} {t0 : Nat} {t1 : Nat} {s : AS} (hf : f_X12_init_26 N l0 t0 t1 s = some r) : Le s r := by
  unfold f_X12_init_26 at hf
  obtain ⟨s6, es6, hf⟩ := ob hf
  refine Le.of (t := (s.1, s.2)) rfl ((le_pP es6).tr ?_)
  exact Le.via (le_X12_init_29 hf) rfl
set_option maxRecDepth 20000 in
theorem zb_X12_init_26 {N : Nat} {r : AS} {E : EV} (hE : TG E none r)  {l0 : Nat} {t0 : Nat} {t1 : Nat} {s : AS} (hf : f_X12_init_26 N l0 t0 t1 s = some r) : Z E yX12_init cX12_init 2 none 1 s 26 [(0, .ref l0)] [.ref t1, .ref t0] := by
  unfold f_X12_init_26 at hf
  refine z_pP (ci := 12) (k := 6) (C := RX12) (T := TX12) (N := 32) rfl inlX12 (by decide) mw_6_21 (fun _ _ _ _ h9 => h9) tyX12 tyX12_ok nmX12 rfl rfl rfl hf (Or.inl (by decide)) rfl rfl rfl dX12_init_26 (fun s6 es6 hf => ?_)
  exact zb_X12_init_29 hE hf
set_option maxRecDepth 20000 in
theorem le_X12_init_22 {N : Nat} {r : AS}  {l0 : Nat} {s : AS} (hf : f_X12_init_22 N l0 s = some r) : Le s r := by
  unfold f_X12_init_22 at hf
  obtain ⟨s5, es5, hf⟩ := ob hf
  refine Le.of (t := (s.1, s.2)) rfl ((le_nArr es5).tr ?_)
  exact Le.via (le_X12_init_26 hf) rfl
set_option maxRecDepth 20000 in
theorem zb_X12_init_22 {N : Nat} {r : AS} {E : EV} (hE : TG E none r)  {l0 : Nat} {s : AS} (hf : f_X12_init_22 N l0 s = some r) : Z E yX12_init cX12_init 2 none 1 s 22 [(0, .ref l0)] [] := by
  unfold f_X12_init_22 at hf
  refine z_aload_n 0 dX12_init_22 rfl rfl ?_
  refine z_iconst 5 5 dX12_init_23 (by decide) ?_
  refine z_na0 hf (fun _ hf => tg_le hE (le_X12_init_26 hf)) mw_2_13 dX12_init_24 (fun s5 hf => ?_)
  exact zb_X12_init_26 hE hf
set_option maxRecDepth 20000 in
theorem le_X12_init_19 {N : Nat} {r : AS}  {l0 : Nat} {t0 : Nat} {t1 : Nat} {s : AS} (hf : f_X12_init_19 N l0 t0 t1 s = some r) : Le s r := by
  unfold f_X12_init_19 at hf
  obtain ⟨s4, es4, hf⟩ := ob hf
  refine Le.of (t := (s.1, s.2)) rfl ((le_pP es4).tr ?_)
  exact Le.via (le_X12_init_22 hf) rfl
set_option maxRecDepth 20000 in
theorem zb_X12_init_19 {N : Nat} {r : AS} {E : EV} (hE : TG E none r)  {l0 : Nat} {t0 : Nat} {t1 : Nat} {s : AS} (hf : f_X12_init_19 N l0 t0 t1 s = some r) : Z E yX12_init cX12_init 2 none 1 s 19 [(0, .ref l0)] [.ref t1, .ref t0] := by
  unfold f_X12_init_19 at hf
  refine z_pP (ci := 12) (k := 1) (C := RX12) (T := TX12) (N := 32) rfl inlX12 (by decide) mw_6_20 (fun _ _ _ _ h9 => h9) tyX12 tyX12_ok nmX12 rfl rfl rfl hf (Or.inl (by decide)) rfl rfl rfl dX12_init_19 (fun s4 es4 hf => ?_)
  exact zb_X12_init_22 hE hf
set_option maxRecDepth 20000 in
theorem le_X12_init_13 {N : Nat} {r : AS}  {l0 : Nat} {s : AS} (hf : f_X12_init_13 N l0 s = some r) : Le s r := by
  unfold f_X12_init_13 at hf
  obtain ⟨s3, es3, hf⟩ := ob hf
  refine Le.of (t := (s.1, s.2)) rfl ((le_nArr es3).tr ?_)
  exact Le.via (le_X12_init_19 hf) rfl
set_option maxRecDepth 20000 in
theorem zb_X12_init_13 {N : Nat} {r : AS} {E : EV} (hE : TG E none r)  {l0 : Nat} {s : AS} (hf : f_X12_init_13 N l0 s = some r) : Z E yX12_init cX12_init 2 none 1 s 13 [(0, .ref l0)] [] := by
  unfold f_X12_init_13 at hf
  refine z_aload_n 0 dX12_init_13 rfl rfl ?_
  refine z_sipush 15642 15642 dX12_init_14 (by decide) ?_
  refine z_na0 hf (fun _ hf => tg_le hE (le_X12_init_19 hf)) mw_2_13 dX12_init_17 (fun s3 hf => ?_)
  exact zb_X12_init_19 hE hf
set_option maxRecDepth 20000 in
theorem le_X12_init_10 {N : Nat} {r : AS}  {l0 : Nat} {t0 : Nat} {t1 : Nat} {s : AS} (hf : f_X12_init_10 N l0 t0 t1 s = some r) : Le s r := by
  unfold f_X12_init_10 at hf
  obtain ⟨s2, es2, hf⟩ := ob hf
  refine Le.of (t := (s.1, s.2)) rfl ((le_pP es2).tr ?_)
  exact Le.via (le_X12_init_13 hf) rfl
set_option maxRecDepth 20000 in
theorem zb_X12_init_10 {N : Nat} {r : AS} {E : EV} (hE : TG E none r)  {l0 : Nat} {t0 : Nat} {t1 : Nat} {s : AS} (hf : f_X12_init_10 N l0 t0 t1 s = some r) : Z E yX12_init cX12_init 2 none 1 s 10 [(0, .ref l0)] [.ref t1, .ref t0] := by
  unfold f_X12_init_10 at hf
  refine z_pP (ci := 12) (k := 0) (C := RX12) (T := TX12) (N := 32) rfl inlX12 (by decide) mw_6_19 (fun _ _ _ _ h9 => h9) tyX12 tyX12_ok nmX12 rfl rfl rfl hf (Or.inl (by decide)) rfl rfl rfl dX12_init_10 (fun s2 es2 hf => ?_)
  exact zb_X12_init_13 hE hf
set_option maxRecDepth 20000 in
theorem lm_X12_init {N : Nat} {s : AS} {l0 : Nat} {r : AS} (hf : f_X12_init N l0 s = some r) : Le s r := by
  unfold f_X12_init at hf
  split at hf
  · skip
    obtain ⟨s1, es1, hf⟩ := ob hf
    refine Le.of (t := (s.1, s.2)) rfl ((le_nArr es1).tr ?_)
    exact Le.via (le_X12_init_10 hf) rfl
  · cases hf
set_option maxRecDepth 20000 in
theorem zm_X12_init {N : Nat} {s : AS} {l0 : Nat} {r : AS} (hf : f_X12_init N l0 s = some r) : isO s.1 l0 12 ∧ ∀ (l : Launch) (G : GG), Mt l G yX12_init cX12_init 2 none 1 [.ref l0] s none r := by
  have hf0 := hf
  unfold f_X12_init at hf
  split at hf
  · rename_i hO
    refine ⟨hO, fun l G => mt_of (Or.inl (by decide)) (Nat.le_of_ble_eq_true rfl) (lm_X12_init hf0) (fun E hE => ?_)⟩
    show Z E yX12_init cX12_init 2 none 1 s 0 [(0, .ref l0)] []
    refine z_aload_n 0 dX12_init_0 rfl rfl ?_
    refine z_objInit mw_6_18 mw_1_10 mw_1_11 (by decide) (Nat.le_of_ble_eq_true rfl) dX12_init_1 ?_
    refine z_aload_n 0 dX12_init_4 rfl rfl ?_
    refine z_sipush 15642 15642 dX12_init_5 (by decide) ?_
    refine z_na0 hf (fun _ hf => tg_le hE (le_X12_init_10 hf)) mw_2_13 dX12_init_8 (fun s1 hf => ?_)
    exact zb_X12_init_10 hE hf
  · cases hf
set_option maxRecDepth 20000 in
theorem zb_X12_isApart_82 {N : Nat} {sh : Sh} {d : Dt} {r : Int32} {E : EV} (hE : TG E (some (.int r)) (sh, d))  {l2 : Int32} (hf : f_X12_isApart_82 N sh l2 d = some r) : Z E yX12_isApart cX12_isApart 4 (some .boolean) 2 (sh, d) 82 [(2, .int l2)] [] := by
  unfold f_X12_isApart_82 at hf
  refine z_iload_n 0 dX12_isApart_82 rfl rfl ?_
  obtain ⟨v13, ev13, hg⟩ := ob hf
  obtain ⟨rfl, hbv13⟩ := o_bool_spec ev13
  cases hg
  exact z_zreturn hE rfl hbv13 dX12_isApart_83
set_option maxRecDepth 20000 in
theorem zb_X12_isApart_75 {N : Nat} {sh : Sh} {d : Dt} {k4 : Nat → Int32 → Int32 → Int32 → Option Int32} {r : Int32} {E : EV} (hE : TG E (some (.int r)) (sh, d)) (hk4 : ∀ (l0 : Nat) (l1 : Int32) (l2 : Int32) (l3 : Int32), k4 l0 l1 l2 l3 = some r → Z E yX12_isApart cX12_isApart 4 (some .boolean) 2 (sh, d) 4 [(0, .ref l0), (1, .int l1), (2, .int l2), (3, .int l3)] []) {l0 : Nat} {l1 : Int32} {l3 : Int32} {t0 : Int32} (hf : f_X12_isApart_75 N sh k4 l0 l1 l3 t0 d = some r) : Z E yX12_isApart cX12_isApart 4 (some .boolean) 2 (sh, d) 75 [(0, .ref l0), (1, .int l1), (3, .int l3)] [.int t0] := by
  unfold f_X12_isApart_75 at hf
  refine z_istore_n [(2, .int t0), (0, .ref l0), (1, .int l1), (3, .int l3)] dX12_isApart_75 rfl (by decide) rfl ?_
  refine z_iinc [(3, .int (l3 + 1)), (2, .int t0), (0, .ref l0), (1, .int l1)] 3 (l3 + 1) dX12_isApart_76 rfl rfl (by decide) rfl ?_
  refine z_goto 4 dX12_isApart_79 (by decide) ?_
  refine z_lv [(0, .ref l0), (1, .int l1), (2, .int t0), (3, .int (l3 + 1))] [2, 3, 1, 0] rfl ?_
  exact hk4 _ _ _ _ hf
set_option maxRecDepth 20000 in
theorem zb_X12_isApart_70 {N : Nat} {sh : Sh} {d : Dt} {k4 : Nat → Int32 → Int32 → Int32 → Option Int32} {r : Int32} {E : EV} (hE : TG E (some (.int r)) (sh, d)) (hk4 : ∀ (l0 : Nat) (l1 : Int32) (l2 : Int32) (l3 : Int32), k4 l0 l1 l2 l3 = some r → Z E yX12_isApart cX12_isApart 4 (some .boolean) 2 (sh, d) 4 [(0, .ref l0), (1, .int l1), (2, .int l2), (3, .int l3)] []) {l0 : Nat} {l1 : Int32} {l3 : Int32} (hf : f_X12_isApart_70 N sh k4 l0 l1 l3 d = some r) : Z E yX12_isApart cX12_isApart 4 (some .boolean) 2 (sh, d) 70 [(0, .ref l0), (1, .int l1), (3, .int l3)] [] := by
  unfold f_X12_isApart_70 at hf
  refine z_iconst 1 1 dX12_isApart_70 (by decide) ?_
  refine z_goto 75 dX12_isApart_71 (by decide) ?_
  exact zb_X12_isApart_75 hE hk4 hf
set_option maxRecDepth 20000 in
theorem zb_X12_isApart_74 {N : Nat} {sh : Sh} {d : Dt} {k4 : Nat → Int32 → Int32 → Int32 → Option Int32} {r : Int32} {E : EV} (hE : TG E (some (.int r)) (sh, d)) (hk4 : ∀ (l0 : Nat) (l1 : Int32) (l2 : Int32) (l3 : Int32), k4 l0 l1 l2 l3 = some r → Z E yX12_isApart cX12_isApart 4 (some .boolean) 2 (sh, d) 4 [(0, .ref l0), (1, .int l1), (2, .int l2), (3, .int l3)] []) {l0 : Nat} {l1 : Int32} {l3 : Int32} (hf : f_X12_isApart_74 N sh k4 l0 l1 l3 d = some r) : Z E yX12_isApart cX12_isApart 4 (some .boolean) 2 (sh, d) 74 [(0, .ref l0), (1, .int l1), (3, .int l3)] [] := by
  unfold f_X12_isApart_74 at hf
  refine z_iconst 0 0 dX12_isApart_74 (by decide) ?_
  exact zb_X12_isApart_75 hE hk4 hf
set_option maxRecDepth 20000 in
theorem zg_X12_isApart_4 {N : Nat} {sh : Sh} {d : Dt} {r : Int32} {k4 : Nat → Int32 → Int32 → Int32 → Option Int32} {E : EV} (hE : TG E (some (.int r)) (sh, d))  (hk4 : ∀ (l0 : Nat) (l1 : Int32) (l2 : Int32) (l3 : Int32), k4 l0 l1 l2 l3 = some r → Z E yX12_isApart cX12_isApart 4 (some .boolean) 2 (sh, d) 4 [(0, .ref l0), (1, .int l1), (2, .int l2), (3, .int l3)] []) {l0 : Nat} {l1 : Int32} {l2 : Int32} {l3 : Int32} (hf : g_X12_isApart_4 N sh k4 l0 l1 l2 l3 d = some r) : Z E yX12_isApart cX12_isApart 4 (some .boolean) 2 (sh, d) 4 [(0, .ref l0), (1, .int l1), (2, .int l2), (3, .int l3)] [] := by
  unfold g_X12_isApart_4 at hf
  refine z_iload_n 3 dX12_isApart_4 rfl rfl ?_
  refine z_aload_n 0 dX12_isApart_5 rfl rfl ?_
  refine z_gP (ci := 12) (k := 0) (C := RX12) (T := TX12) (N := 32) rfl inlX12 (by decide) mw_6_19 (fun _ _ _ _ h9 => h9) hf (by decide) rfl dX12_isApart_6  (fun v1 hf => ?_)
  refine z_iconst 1 1 dX12_isApart_9 (by decide) ?_
  refine z_aI hf dX12_isApart_10  (fun v2 hf => ?_)
  refine z_icmp_ge 82 hf dX12_isApart_11 (by decide) (fun hf => ?_) (fun hf => ?_)
  · refine z_lv [(2, .int l2)] [2] rfl ?_
    exact zb_X12_isApart_82 hE hf
  · refine z_iload_n 2 dX12_isApart_14 rfl rfl ?_
    refine z_if_ne 70 hf dX12_isApart_15 (by decide) (fun hf => ?_) (fun hf => ?_)
    · refine z_lv [(0, .ref l0), (1, .int l1), (3, .int l3)] [0, 1, 3] rfl ?_
      exact zb_X12_isApart_70 hE hk4 hf
    · refine z_aload_n 0 dX12_isApart_18 rfl rfl ?_
      refine z_gP (ci := 12) (k := 14) (C := RX12) (T := TX12) (N := 32) rfl inlX12 (by decide) mw_7_4 (fun _ _ _ _ h9 => h9) hf (by decide) rfl dX12_isApart_19  (fun v3 hf => ?_)
      refine z_iload_n 3 dX12_isApart_22 rfl rfl ?_
      refine z_aI hf dX12_isApart_23  (fun v4 hf => ?_)
      refine z_if_le 74 hf dX12_isApart_24 (by decide) (fun hf => ?_) (fun hf => ?_)
      · refine z_lv [(0, .ref l0), (1, .int l1), (3, .int l3)] [0, 1, 3] rfl ?_
        exact zb_X12_isApart_74 hE hk4 hf
      · refine z_aload_n 0 dX12_isApart_27 rfl rfl ?_
        refine z_gP (ci := 12) (k := 17) (C := RX12) (T := TX12) (N := 32) rfl inlX12 (by decide) mw_7_6 (fun _ _ _ _ h9 => h9) hf (by decide) rfl dX12_isApart_28  (fun v5 hf => ?_)
        refine z_iload_n 1 dX12_isApart_31 rfl rfl ?_
        refine z_aZ hf dX12_isApart_32  (fun v6 hf => ?_)
        refine z_if_ne 74 hf dX12_isApart_33 (by decide) (fun hf => ?_) (fun hf => ?_)
        · refine z_lv [(0, .ref l0), (1, .int l1), (3, .int l3)] [0, 1, 3] rfl ?_
          exact zb_X12_isApart_74 hE hk4 hf
        · refine z_aload_n 0 dX12_isApart_36 rfl rfl ?_
          refine z_gP (ci := 12) (k := 0) (C := RX12) (T := TX12) (N := 32) rfl inlX12 (by decide) mw_6_19 (fun _ _ _ _ h9 => h9) hf (by decide) rfl dX12_isApart_37  (fun v7 hf => ?_)
          refine z_aload_n 0 dX12_isApart_40 rfl rfl ?_
          refine z_iload_n 3 dX12_isApart_41 rfl rfl ?_
          obtain ⟨v8, ev8, hf⟩ := ob hf
          refine z_cVi (ci := 12) (T := TX12) (N := 32) (As := [.int l3]) (rest := [.ref v7]) (zm_X12_st ev8).2 (zm_X12_st ev8).1 (by decide) rfl (Or.inl rfl) mw_13_10 mw_13_11 mw_13_12 mw_1_5 mw_13_13 yk_X12_st (by decide) (by decide) rfl (Nat.le_of_ble_eq_true rfl) rfl dX12_isApart_42 ?_
          refine z_bipush 7 7 dX12_isApart_45 (by decide) ?_
          refine z_iadd dX12_isApart_47 ?_
          refine z_aI hf dX12_isApart_48  (fun v9 hf => ?_)
          refine z_iload_n 1 dX12_isApart_49 rfl rfl ?_
          refine z_icmp_eq 70 hf dX12_isApart_50 (by decide) (fun hf => ?_) (fun hf => ?_)
          · refine z_lv [(0, .ref l0), (1, .int l1), (3, .int l3)] [0, 1, 3] rfl ?_
            exact zb_X12_isApart_70 hE hk4 hf
          · refine z_aload_n 0 dX12_isApart_53 rfl rfl ?_
            refine z_gP (ci := 12) (k := 0) (C := RX12) (T := TX12) (N := 32) rfl inlX12 (by decide) mw_6_19 (fun _ _ _ _ h9 => h9) hf (by decide) rfl dX12_isApart_54  (fun v10 hf => ?_)
            refine z_aload_n 0 dX12_isApart_57 rfl rfl ?_
            refine z_iload_n 3 dX12_isApart_58 rfl rfl ?_
            obtain ⟨v11, ev11, hf⟩ := ob hf
            refine z_cVi (ci := 12) (T := TX12) (N := 32) (As := [.int l3]) (rest := [.ref v10]) (zm_X12_st ev11).2 (zm_X12_st ev11).1 (by decide) rfl (Or.inl rfl) mw_13_10 mw_13_11 mw_13_12 mw_1_5 mw_13_13 yk_X12_st (by decide) (by decide) rfl (Nat.le_of_ble_eq_true rfl) rfl dX12_isApart_59 ?_
            refine z_bipush 8 8 dX12_isApart_62 (by decide) ?_
            refine z_iadd dX12_isApart_64 ?_
            refine z_aI hf dX12_isApart_65  (fun v12 hf => ?_)
            refine z_iload_n 1 dX12_isApart_66 rfl rfl ?_
            refine z_icmp_ne 74 hf dX12_isApart_67 (by decide) (fun hf => ?_) (fun hf => ?_)
            · refine z_lv [(0, .ref l0), (1, .int l1), (3, .int l3)] [0, 1, 3] rfl ?_
              exact zb_X12_isApart_74 hE hk4 hf
            · refine z_lv [(0, .ref l0), (1, .int l1), (3, .int l3)] [0, 1, 3] rfl ?_
              exact zb_X12_isApart_70 hE hk4 hf
set_option maxRecDepth 20000 in
theorem zb_X12_isApart_4 {N : Nat} {sh : Sh} {d : Dt} {r : Int32} {E : EV} (hE : TG E (some (.int r)) (sh, d))  : ∀ (n : Nat) (l0 : Nat) (l1 : Int32) (l2 : Int32) (l3 : Int32), f_X12_isApart_4 N sh d n l0 l1 l2 l3 = some r → Z E yX12_isApart cX12_isApart 4 (some .boolean) 2 (sh, d) 4 [(0, .ref l0), (1, .int l1), (2, .int l2), (3, .int l3)] [] := by
  intro n
  induction n with
  | zero => intro l0 l1 l2 l3 hf; cases hf
  | succ n ih => intro l0 l1 l2 l3 hf; exact zg_X12_isApart_4 hE ih hf
set_option maxRecDepth 20000 in
theorem zm_X12_isApart {N : Nat} {sh : Sh} {d : Dt} {l0 : Nat} {l1 : Int32} {r : Int32} (hf : f_X12_isApart N sh l0 l1 d = some r) : isO sh l0 12 ∧ ∀ (l : Launch) (G : GG), Mt l G yX12_isApart cX12_isApart 4 (some .boolean) 2 [.ref l0, .int l1] (sh, d) (some (.int r)) (sh, d) := by
  have hf0 := hf
  unfold f_X12_isApart at hf
  split at hf
  · rename_i hO
    refine ⟨hO, fun l G => mt_of (Or.inl (by decide)) (Nat.le_of_ble_eq_true rfl) Le.rf (fun E hE => ?_)⟩
    show Z E yX12_isApart cX12_isApart 4 (some .boolean) 2 (sh, d) 0 [(0, .ref l0), (1, .int l1)] []
    refine z_iconst 0 0 dX12_isApart_0 (by decide) ?_
    refine z_istore_n [(2, .int (0 : Int32)), (0, .ref l0), (1, .int l1)] dX12_isApart_1 rfl (by decide) rfl ?_
    refine z_iconst 0 0 dX12_isApart_2 (by decide) ?_
    refine z_istore_n [(3, .int (0 : Int32)), (2, .int (0 : Int32)), (0, .ref l0), (1, .int l1)] dX12_isApart_3 rfl (by decide) rfl ?_
    refine z_lv [(0, .ref l0), (1, .int l1), (2, .int (0 : Int32)), (3, .int (0 : Int32))] [2, 3, 1, 0] rfl ?_
    exact zb_X12_isApart_4 hE N _ _ _ _ hf
  · cases hf
set_option maxRecDepth 20000 in
theorem zm_X12_pairsUp {N : Nat} {sh : Sh} {d : Dt} {l0 : Nat} {l1 : Int32} {l2 : Int32} {l3 : Int32} {r : Dt} (hf : f_X12_pairsUp N sh l0 l1 l2 l3 d = some r) : isO sh l0 12 ∧ ∀ (l : Launch) (G : GG), Mt l G yX12_pairsUp cX12_pairsUp 4 none 2 [.ref l0, .int l1, .int l2, .int l3] (sh, d) none (sh, r) := by
  have hf0 := hf
  unfold f_X12_pairsUp at hf
  split at hf
  · rename_i hO
    refine ⟨hO, fun l G => mt_of (Or.inl (by decide)) (Nat.le_of_ble_eq_true rfl) Le.rf (fun E hE => ?_)⟩
    show Z E yX12_pairsUp cX12_pairsUp 4 none 2 (sh, d) 0 [(0, .ref l0), (1, .int l1), (2, .int l2), (3, .int l3)] []
    refine z_aload_n 0 dX12_pairsUp_0 rfl rfl ?_
    refine z_gP (ci := 12) (k := 22) (C := RX12) (T := TX12) (N := 32) rfl inlX12 (by decide) mw_7_8 (fun _ _ _ _ h9 => h9) hf (by decide) rfl dX12_pairsUp_1  (fun v1 hf => ?_)
    refine z_iload_n 1 dX12_pairsUp_4 rfl rfl ?_
    refine z_iload_n 2 dX12_pairsUp_5 rfl rfl ?_
    refine z_iload_n 3 dX12_pairsUp_6 rfl rfl ?_
    obtain ⟨v2, ev2, hf⟩ := ob hf
    refine z_cTi (As := [.int l2, .int l3]) (rest := [.int l1, .ref v1]) (zm_X12_lesser ev2) (Or.inl rfl) mw_25_11 mw_25_12 mw_1_5 mw_25_13 yk_X12_lesser (by decide) (by decide) rfl (Nat.le_of_ble_eq_true rfl) rfl dX12_pairsUp_7 ?_
    refine z_sI hf dX12_pairsUp_10  (fun d3 hf => ?_)
    refine z_aload_n 0 dX12_pairsUp_11 rfl rfl ?_
    refine z_gP (ci := 12) (k := 23) (C := RX12) (T := TX12) (N := 32) rfl inlX12 (by decide) mw_7_9 (fun _ _ _ _ h9 => h9) hf (by decide) rfl dX12_pairsUp_12  (fun v4 hf => ?_)
    refine z_iload_n 1 dX12_pairsUp_15 rfl rfl ?_
    refine z_iload_n 2 dX12_pairsUp_16 rfl rfl ?_
    refine z_iload_n 3 dX12_pairsUp_17 rfl rfl ?_
    refine z_iadd dX12_pairsUp_18 ?_
    refine z_iload_n 2 dX12_pairsUp_19 rfl rfl ?_
    refine z_iload_n 3 dX12_pairsUp_20 rfl rfl ?_
    obtain ⟨v5, ev5, hf⟩ := ob hf
    refine z_cTi (As := [.int l2, .int l3]) (rest := [.int (l2 + l3), .int l1, .ref v4]) (zm_X12_lesser ev5) (Or.inl rfl) mw_25_11 mw_25_12 mw_1_5 mw_25_13 yk_X12_lesser (by decide) (by decide) rfl (Nat.le_of_ble_eq_true rfl) rfl dX12_pairsUp_21 ?_
    refine z_isub dX12_pairsUp_24 ?_
    refine z_sI hf dX12_pairsUp_25  (fun d6 hf => ?_)
    cases hf
    exact z_return hE rfl dX12_pairsUp_26
  · cases hf
set_option maxRecDepth 20000 in
theorem zb_X12_isExchanged_163 {N : Nat} {sh : Sh} {r : Int32 × Dt} {E : EV} (hE : TG E (some (.int r.1)) (sh, r.2))   {d : Dt} (hf : f_X12_isExchanged_163 N sh  d = some r) : Z E yX12_isExchanged cX12_isExchanged 8 (some .boolean) 3 (sh, d) 163 [] [] := by
  unfold f_X12_isExchanged_163 at hf
  refine z_iconst 0 0 dX12_isExchanged_163 (by decide) ?_
  cases hf
  exact z_zreturn hE rfl (by decide) dX12_isExchanged_164
set_option maxRecDepth 20000 in
theorem zb_X12_isExchanged_157 {N : Nat} {sh : Sh} {k2 : Nat → Int32 → Dt → Option (Int32 × Dt)} {r : Int32 × Dt} {E : EV} (hE : TG E (some (.int r.1)) (sh, r.2)) (hk2 : ∀ (l0 : Nat) (l1 : Int32) (d : Dt), k2 l0 l1 d = some r → Z E yX12_isExchanged cX12_isExchanged 8 (some .boolean) 3 (sh, d) 2 [(0, .ref l0), (1, .int l1)] []) {l0 : Nat} {l1 : Int32} {d : Dt} (hf : f_X12_isExchanged_157 N sh k2 l0 l1 d = some r) : Z E yX12_isExchanged cX12_isExchanged 8 (some .boolean) 3 (sh, d) 157 [(0, .ref l0), (1, .int l1)] [] := by
  unfold f_X12_isExchanged_157 at hf
  refine z_iinc [(1, .int (l1 + 1)), (0, .ref l0)] 1 (l1 + 1) dX12_isExchanged_157 rfl rfl (by decide) rfl ?_
  refine z_goto 2 dX12_isExchanged_160 (by decide) ?_
  refine z_lv [(0, .ref l0), (1, .int (l1 + 1))] [1, 0] rfl ?_
  exact hk2 _ _ _ hf
set_option maxRecDepth 20000 in
theorem zb_X12_isExchanged_132 {N : Nat} {sh : Sh} {r : Int32 × Dt} {E : EV} (hE : TG E (some (.int r.1)) (sh, r.2))  {l0 : Nat} {l1 : Int32} {l2 : Int32} {l3 : Int32} {l4 : Int32} {l5 : Int32} {l6 : Int32} {d : Dt} (hf : f_X12_isExchanged_132 N sh l0 l1 l2 l3 l4 l5 l6 d = some r) : Z E yX12_isExchanged cX12_isExchanged 8 (some .boolean) 3 (sh, d) 132 [(0, .ref l0), (1, .int l1), (2, .int l2), (3, .int l3), (4, .int l4), (5, .int l5), (6, .int l6)] [] := by
  unfold f_X12_isExchanged_132 at hf
  refine z_aload_n 0 dX12_isExchanged_132 rfl rfl ?_
  refine z_iload_n 1 dX12_isExchanged_133 rfl rfl ?_
  refine z_iload_n 3 dX12_isExchanged_134 rfl rfl ?_
  refine z_iload 6 dX12_isExchanged_135 rfl ?_
  obtain ⟨v17, ev17, hf⟩ := ob hf
  refine z_cVv (ci := 12) (T := TX12) (N := 32) (As := [.int l1, .int l3, .int l6]) (rest := []) (zm_X12_pairsUp ev17).2 (zm_X12_pairsUp ev17).1 (by decide) rfl (Or.inl rfl) mw_50_13 mw_50_14 mw_50_15 mw_1_5 mw_50_16 yk_X12_pairsUp (by decide) (by decide) rfl (Nat.le_of_ble_eq_true rfl) rfl dX12_isExchanged_137 ?_
  refine z_aload_n 0 dX12_isExchanged_140 rfl rfl ?_
  refine z_iload_n 2 dX12_isExchanged_141 rfl rfl ?_
  refine z_iload 4 dX12_isExchanged_142 rfl ?_
  refine z_iload 5 dX12_isExchanged_144 rfl ?_
  obtain ⟨v18, ev18, hf⟩ := ob hf
  refine z_cVv (ci := 12) (T := TX12) (N := 32) (As := [.int l2, .int l4, .int l5]) (rest := []) (zm_X12_pairsUp ev18).2 (zm_X12_pairsUp ev18).1 (by decide) rfl (Or.inl rfl) mw_50_13 mw_50_14 mw_50_15 mw_1_5 mw_50_16 yk_X12_pairsUp (by decide) (by decide) rfl (Nat.le_of_ble_eq_true rfl) rfl dX12_isExchanged_146 ?_
  refine z_iconst 1 1 dX12_isExchanged_149 (by decide) ?_
  cases hf
  exact z_zreturn hE rfl (by decide) dX12_isExchanged_150
set_option maxRecDepth 20000 in
theorem zb_X12_isExchanged_92 {N : Nat} {sh : Sh} {r : Int32 × Dt} {E : EV} (hE : TG E (some (.int r.1)) (sh, r.2))  {l0 : Nat} {l1 : Int32} {l2 : Int32} {l3 : Int32} {l4 : Int32} {l5 : Int32} {l6 : Int32} {d : Dt} (hf : f_X12_isExchanged_92 N sh l0 l1 l2 l3 l4 l5 l6 d = some r) : Z E yX12_isExchanged cX12_isExchanged 8 (some .boolean) 3 (sh, d) 92 [(0, .ref l0), (1, .int l1), (2, .int l2), (3, .int l3), (4, .int l4), (5, .int l5), (6, .int l6)] [] := by
  unfold f_X12_isExchanged_92 at hf
  refine z_aload_n 0 dX12_isExchanged_92 rfl rfl ?_
  refine z_iload_n 1 dX12_isExchanged_93 rfl rfl ?_
  refine z_iload_n 3 dX12_isExchanged_94 rfl rfl ?_
  refine z_iload 5 dX12_isExchanged_95 rfl ?_
  obtain ⟨v19, ev19, hf⟩ := ob hf
  refine z_cVv (ci := 12) (T := TX12) (N := 32) (As := [.int l1, .int l3, .int l5]) (rest := []) (zm_X12_pairsUp ev19).2 (zm_X12_pairsUp ev19).1 (by decide) rfl (Or.inl rfl) mw_50_13 mw_50_14 mw_50_15 mw_1_5 mw_50_16 yk_X12_pairsUp (by decide) (by decide) rfl (Nat.le_of_ble_eq_true rfl) rfl dX12_isExchanged_97 ?_
  refine z_aload_n 0 dX12_isExchanged_100 rfl rfl ?_
  refine z_iload_n 2 dX12_isExchanged_101 rfl rfl ?_
  refine z_iload 4 dX12_isExchanged_102 rfl ?_
  refine z_iload 6 dX12_isExchanged_104 rfl ?_
  obtain ⟨v20, ev20, hf⟩ := ob hf
  refine z_cVv (ci := 12) (T := TX12) (N := 32) (As := [.int l2, .int l4, .int l6]) (rest := []) (zm_X12_pairsUp ev20).2 (zm_X12_pairsUp ev20).1 (by decide) rfl (Or.inl rfl) mw_50_13 mw_50_14 mw_50_15 mw_1_5 mw_50_16 yk_X12_pairsUp (by decide) (by decide) rfl (Nat.le_of_ble_eq_true rfl) rfl dX12_isExchanged_106 ?_
  refine z_iconst 1 1 dX12_isExchanged_109 (by decide) ?_
  cases hf
  exact z_zreturn hE rfl (by decide) dX12_isExchanged_110
set_option maxRecDepth 20000 in
theorem zg_X12_isExchanged_14 {N : Nat} {sh : Sh} {k2 : Nat → Int32 → Dt → Option (Int32 × Dt)} {r : Int32 × Dt} {k14 : Nat → Int32 → Int32 → Dt → Option (Int32 × Dt)} {E : EV} (hE : TG E (some (.int r.1)) (sh, r.2)) (hk2 : ∀ (l0 : Nat) (l1 : Int32) (d : Dt), k2 l0 l1 d = some r → Z E yX12_isExchanged cX12_isExchanged 8 (some .boolean) 3 (sh, d) 2 [(0, .ref l0), (1, .int l1)] []) (hk14 : ∀ (l0 : Nat) (l1 : Int32) (l2 : Int32) (d : Dt), k14 l0 l1 l2 d = some r → Z E yX12_isExchanged cX12_isExchanged 8 (some .boolean) 3 (sh, d) 14 [(0, .ref l0), (1, .int l1), (2, .int l2)] []) {l0 : Nat} {l1 : Int32} {l2 : Int32} {d : Dt} (hf : g_X12_isExchanged_14 N sh k2 k14 l0 l1 l2 d = some r) : Z E yX12_isExchanged cX12_isExchanged 8 (some .boolean) 3 (sh, d) 14 [(0, .ref l0), (1, .int l1), (2, .int l2)] [] := by
  unfold g_X12_isExchanged_14 at hf
  refine z_iload_n 2 dX12_isExchanged_14 rfl rfl ?_
  refine z_aload_n 0 dX12_isExchanged_15 rfl rfl ?_
  refine z_gI (ci := 12) (k := 21) (C := RX12) (T := TX12) (N := 32) rfl inlX12 (by decide) mw_48_19 (fun _ _ _ _ h9 => h9) hf (by decide) rfl dX12_isExchanged_16  (fun v2 hf => ?_)
  refine z_icmp_ge 157 hf dX12_isExchanged_19 (by decide) (fun hf => ?_) (fun hf => ?_)
  · refine z_lv [(0, .ref l0), (1, .int l1)] [0, 1] rfl ?_
    exact zb_X12_isExchanged_157 hE hk2 hf
  · refine z_aload_n 0 dX12_isExchanged_22 rfl rfl ?_
    refine z_gP (ci := 12) (k := 22) (C := RX12) (T := TX12) (N := 32) rfl inlX12 (by decide) mw_7_8 (fun _ _ _ _ h9 => h9) hf (by decide) rfl dX12_isExchanged_23  (fun v3 hf => ?_)
    refine z_iload_n 1 dX12_isExchanged_26 rfl rfl ?_
    refine z_aI hf dX12_isExchanged_27  (fun v4 hf => ?_)
    refine z_istore_n [(3, .int v4), (0, .ref l0), (1, .int l1), (2, .int l2)] dX12_isExchanged_28 rfl (by decide) rfl ?_
    refine z_aload_n 1 dX12_isExchanged_29 rfl rfl ?_
    refine z_gP (ci := 12) (k := 23) (C := RX12) (T := TX12) (N := 32) rfl inlX12 (by decide) mw_7_9 (fun _ _ _ _ h9 => h9) hf (by decide) rfl dX12_isExchanged_30  (fun v5 hf => ?_)
    refine z_iload_n 2 dX12_isExchanged_33 rfl rfl ?_
    refine z_aI hf dX12_isExchanged_34  (fun v6 hf => ?_)
    refine z_istore [(4, .int v6), (3, .int v4), (0, .ref l0), (1, .int l1), (2, .int l2)] dX12_isExchanged_35 (by decide) rfl ?_
    refine z_aload_n 2 dX12_isExchanged_37 rfl rfl ?_
    refine z_gP (ci := 12) (k := 22) (C := RX12) (T := TX12) (N := 32) rfl inlX12 (by decide) mw_7_8 (fun _ _ _ _ h9 => h9) hf (by decide) rfl dX12_isExchanged_38  (fun v7 hf => ?_)
    refine z_iload_n 4 dX12_isExchanged_41 rfl rfl ?_
    refine z_aI hf dX12_isExchanged_42  (fun v8 hf => ?_)
    refine z_istore [(5, .int v8), (4, .int v6), (3, .int v4), (0, .ref l0), (1, .int l1), (2, .int l2)] dX12_isExchanged_43 (by decide) rfl ?_
    refine z_aload_n 3 dX12_isExchanged_45 rfl rfl ?_
    refine z_gP (ci := 12) (k := 23) (C := RX12) (T := TX12) (N := 32) rfl inlX12 (by decide) mw_7_9 (fun _ _ _ _ h9 => h9) hf (by decide) rfl dX12_isExchanged_46  (fun v9 hf => ?_)
    refine z_iload_n 5 dX12_isExchanged_49 rfl rfl ?_
    refine z_aI hf dX12_isExchanged_50  (fun v10 hf => ?_)
    refine z_istore [(6, .int v10), (5, .int v8), (4, .int v6), (3, .int v4), (0, .ref l0), (1, .int l1), (2, .int l2)] dX12_isExchanged_51 (by decide) rfl ?_
    refine z_aload_n 4 dX12_isExchanged_53 rfl rfl ?_
    refine z_iload_n 3 dX12_isExchanged_54 rfl rfl ?_
    refine z_iload 2 dX12_isExchanged_55 rfl ?_
    obtain ⟨v11, ev11, hf⟩ := ob hf
    refine z_cVi (ci := 12) (T := TX12) (N := 32) (As := [.int v4, .int v6]) (rest := []) (zm_X12_between ev11).2 (zm_X12_between ev11).1 (by decide) rfl (Or.inl rfl) mw_42_23 mw_43_0 mw_43_1 mw_1_5 mw_43_2 yk_X12_between (by decide) (by decide) rfl (Nat.le_of_ble_eq_true rfl) rfl dX12_isExchanged_57 ?_
    refine z_aload_n 4 dX12_isExchanged_60 rfl rfl ?_
    refine z_iload 1 dX12_isExchanged_61 rfl ?_
    refine z_iload 0 dX12_isExchanged_63 rfl ?_
    obtain ⟨v12, ev12, hf⟩ := ob hf
    refine z_cVi (ci := 12) (T := TX12) (N := 32) (As := [.int v8, .int v10]) (rest := [.int v11]) (zm_X12_between ev12).2 (zm_X12_between ev12).1 (by decide) rfl (Or.inl rfl) mw_42_23 mw_43_0 mw_43_1 mw_1_5 mw_43_2 yk_X12_between (by decide) (by decide) rfl (Nat.le_of_ble_eq_true rfl) rfl dX12_isExchanged_65 ?_
    refine z_iadd dX12_isExchanged_68 ?_
    refine z_istore [(7, .int (v11 + v12)), (6, .int v10), (5, .int v8), (4, .int v6), (3, .int v4), (0, .ref l0), (1, .int l1), (2, .int l2)] dX12_isExchanged_69 (by decide) rfl ?_
    refine z_aload_n 5 dX12_isExchanged_71 rfl rfl ?_
    refine z_iload_n 4 dX12_isExchanged_72 rfl rfl ?_
    refine z_iload 2 dX12_isExchanged_73 rfl ?_
    obtain ⟨v13, ev13, hf⟩ := ob hf
    refine z_cVi (ci := 12) (T := TX12) (N := 32) (As := [.int v4, .int v8]) (rest := []) (zm_X12_between ev13).2 (zm_X12_between ev13).1 (by decide) rfl (Or.inl rfl) mw_42_23 mw_43_0 mw_43_1 mw_1_5 mw_43_2 yk_X12_between (by decide) (by decide) rfl (Nat.le_of_ble_eq_true rfl) rfl dX12_isExchanged_75 ?_
    refine z_aload_n 5 dX12_isExchanged_78 rfl rfl ?_
    refine z_iload 3 dX12_isExchanged_79 rfl ?_
    refine z_iload 1 dX12_isExchanged_81 rfl ?_
    obtain ⟨v14, ev14, hf⟩ := ob hf
    refine z_cVi (ci := 12) (T := TX12) (N := 32) (As := [.int v6, .int v10]) (rest := [.int v13]) (zm_X12_between ev14).2 (zm_X12_between ev14).1 (by decide) rfl (Or.inl rfl) mw_42_23 mw_43_0 mw_43_1 mw_1_5 mw_43_2 yk_X12_between (by decide) (by decide) rfl (Nat.le_of_ble_eq_true rfl) rfl dX12_isExchanged_83 ?_
    refine z_iadd dX12_isExchanged_86 ?_
    refine z_iload 0 dX12_isExchanged_87 rfl ?_
    refine z_icmp_ge 111 hf dX12_isExchanged_89 (by decide) (fun hf => ?_) (fun hf => ?_)
    · refine z_aload_n 5 dX12_isExchanged_111 rfl rfl ?_
      refine z_iload_n 4 dX12_isExchanged_112 rfl rfl ?_
      refine z_iload 1 dX12_isExchanged_113 rfl ?_
      obtain ⟨v15, ev15, hf⟩ := ob hf
      refine z_cVi (ci := 12) (T := TX12) (N := 32) (As := [.int v4, .int v10]) (rest := []) (zm_X12_between ev15).2 (zm_X12_between ev15).1 (by decide) rfl (Or.inl rfl) mw_42_23 mw_43_0 mw_43_1 mw_1_5 mw_43_2 yk_X12_between (by decide) (by decide) rfl (Nat.le_of_ble_eq_true rfl) rfl dX12_isExchanged_115 ?_
      refine z_aload_n 5 dX12_isExchanged_118 rfl rfl ?_
      refine z_iload 3 dX12_isExchanged_119 rfl ?_
      refine z_iload 2 dX12_isExchanged_121 rfl ?_
      obtain ⟨v16, ev16, hf⟩ := ob hf
      refine z_cVi (ci := 12) (T := TX12) (N := 32) (As := [.int v6, .int v8]) (rest := [.int v15]) (zm_X12_between ev16).2 (zm_X12_between ev16).1 (by decide) rfl (Or.inl rfl) mw_42_23 mw_43_0 mw_43_1 mw_1_5 mw_43_2 yk_X12_between (by decide) (by decide) rfl (Nat.le_of_ble_eq_true rfl) rfl dX12_isExchanged_123 ?_
      refine z_iadd dX12_isExchanged_126 ?_
      refine z_iload 0 dX12_isExchanged_127 rfl ?_
      refine z_icmp_ge 151 hf dX12_isExchanged_129 (by decide) (fun hf => ?_) (fun hf => ?_)
      · refine z_iinc [(2, .int (l2 + 1)), (7, .int (v11 + v12)), (6, .int v10), (5, .int v8), (4, .int v6), (3, .int v4), (0, .ref l0), (1, .int l1)] 7 (l2 + 1) dX12_isExchanged_151 rfl rfl (by decide) rfl ?_
        refine z_goto 14 dX12_isExchanged_154 (by decide) ?_
        refine z_lv [(0, .ref l0), (1, .int l1), (2, .int (l2 + 1))] [6, 7, 0] rfl ?_
        exact hk14 _ _ _ _ hf
      · refine z_lv [(0, .ref l0), (1, .int l1), (2, .int l2), (3, .int v4), (4, .int v6), (5, .int v8), (6, .int v10)] [5, 6, 7, 4, 3, 2, 1] rfl ?_
        exact zb_X12_isExchanged_132 hE hf
    · refine z_lv [(0, .ref l0), (1, .int l1), (2, .int l2), (3, .int v4), (4, .int v6), (5, .int v8), (6, .int v10)] [5, 6, 7, 4, 3, 2, 1] rfl ?_
      exact zb_X12_isExchanged_92 hE hf
set_option maxRecDepth 20000 in
theorem zb_X12_isExchanged_14 {N : Nat} {sh : Sh} {k2 : Nat → Int32 → Dt → Option (Int32 × Dt)} {r : Int32 × Dt} {E : EV} (hE : TG E (some (.int r.1)) (sh, r.2)) (hk2 : ∀ (l0 : Nat) (l1 : Int32) (d : Dt), k2 l0 l1 d = some r → Z E yX12_isExchanged cX12_isExchanged 8 (some .boolean) 3 (sh, d) 2 [(0, .ref l0), (1, .int l1)] []) : ∀ (n : Nat) (l0 : Nat) (l1 : Int32) (l2 : Int32) (d : Dt), f_X12_isExchanged_14 N sh k2 n l0 l1 l2 d = some r → Z E yX12_isExchanged cX12_isExchanged 8 (some .boolean) 3 (sh, d) 14 [(0, .ref l0), (1, .int l1), (2, .int l2)] [] := by
  intro n
  induction n with
  | zero => intro l0 l1 l2 d hf; cases hf
  | succ n ih => intro l0 l1 l2 d hf; exact zg_X12_isExchanged_14 hE hk2 ih hf
set_option maxRecDepth 20000 in
theorem zg_X12_isExchanged_2 {N : Nat} {sh : Sh} {r : Int32 × Dt} {k2 : Nat → Int32 → Dt → Option (Int32 × Dt)} {E : EV} (hE : TG E (some (.int r.1)) (sh, r.2))  (hk2 : ∀ (l0 : Nat) (l1 : Int32) (d : Dt), k2 l0 l1 d = some r → Z E yX12_isExchanged cX12_isExchanged 8 (some .boolean) 3 (sh, d) 2 [(0, .ref l0), (1, .int l1)] []) {l0 : Nat} {l1 : Int32} {d : Dt} (hf : g_X12_isExchanged_2 N sh k2 l0 l1 d = some r) : Z E yX12_isExchanged cX12_isExchanged 8 (some .boolean) 3 (sh, d) 2 [(0, .ref l0), (1, .int l1)] [] := by
  unfold g_X12_isExchanged_2 at hf
  refine z_iload_n 1 dX12_isExchanged_2 rfl rfl ?_
  refine z_aload_n 0 dX12_isExchanged_3 rfl rfl ?_
  refine z_gI (ci := 12) (k := 21) (C := RX12) (T := TX12) (N := 32) rfl inlX12 (by decide) mw_48_19 (fun _ _ _ _ h9 => h9) hf (by decide) rfl dX12_isExchanged_4  (fun v1 hf => ?_)
  refine z_icmp_ge 163 hf dX12_isExchanged_7 (by decide) (fun hf => ?_) (fun hf => ?_)
  · refine z_lv [] [] rfl ?_
    exact zb_X12_isExchanged_163 hE hf
  · refine z_iload_n 1 dX12_isExchanged_10 rfl rfl ?_
    refine z_iconst 1 1 dX12_isExchanged_11 (by decide) ?_
    refine z_iadd dX12_isExchanged_12 ?_
    refine z_istore_n [(2, .int (l1 + (1 : Int32))), (0, .ref l0), (1, .int l1)] dX12_isExchanged_13 rfl (by decide) rfl ?_
    refine z_lv [(0, .ref l0), (1, .int l1), (2, .int (l1 + (1 : Int32)))] [1, 2, 0] rfl ?_
    exact zb_X12_isExchanged_14 hE hk2 N _ _ _ _ hf
set_option maxRecDepth 20000 in
theorem zb_X12_isExchanged_2 {N : Nat} {sh : Sh} {r : Int32 × Dt} {E : EV} (hE : TG E (some (.int r.1)) (sh, r.2))  : ∀ (n : Nat) (l0 : Nat) (l1 : Int32) (d : Dt), f_X12_isExchanged_2 N sh n l0 l1 d = some r → Z E yX12_isExchanged cX12_isExchanged 8 (some .boolean) 3 (sh, d) 2 [(0, .ref l0), (1, .int l1)] [] := by
  intro n
  induction n with
  | zero => intro l0 l1 d hf; cases hf
  | succ n ih => intro l0 l1 d hf; exact zg_X12_isExchanged_2 hE ih hf
set_option maxRecDepth 20000 in
theorem zm_X12_isExchanged {N : Nat} {sh : Sh} {d : Dt} {l0 : Nat} {r : Int32 × Dt} (hf : f_X12_isExchanged N sh l0 d = some r) : isO sh l0 12 ∧ ∀ (l : Launch) (G : GG), Mt l G yX12_isExchanged cX12_isExchanged 8 (some .boolean) 3 [.ref l0] (sh, d) (some (.int r.1)) (sh, r.2) := by
  have hf0 := hf
  unfold f_X12_isExchanged at hf
  split at hf
  · rename_i hO
    refine ⟨hO, fun l G => mt_of (Or.inl (by decide)) (Nat.le_of_ble_eq_true rfl) Le.rf (fun E hE => ?_)⟩
    show Z E yX12_isExchanged cX12_isExchanged 8 (some .boolean) 3 (sh, d) 0 [(0, .ref l0)] []
    refine z_iconst 0 0 dX12_isExchanged_0 (by decide) ?_
    refine z_istore_n [(1, .int (0 : Int32)), (0, .ref l0)] dX12_isExchanged_1 rfl (by decide) rfl ?_
    refine z_lv [(0, .ref l0), (1, .int (0 : Int32))] [1, 0] rfl ?_
    exact zb_X12_isExchanged_2 hE N _ _ _ hf
  · cases hf
set_option maxRecDepth 20000 in
theorem zb_X12_isOneWay_54 {N : Nat} {sh : Sh} {d : Dt} {r : Int32} {E : EV} (hE : TG E (some (.int r)) (sh, d))  {l1 : Int32} (hf : f_X12_isOneWay_54 N sh l1 d = some r) : Z E yX12_isOneWay cX12_isOneWay 3 (some .boolean) 3 (sh, d) 54 [(1, .int l1)] [] := by
  unfold f_X12_isOneWay_54 at hf
  refine z_iload_n 0 dX12_isOneWay_54 rfl rfl ?_
  obtain ⟨v7, ev7, hg⟩ := ob hf
  obtain ⟨rfl, hbv7⟩ := o_bool_spec ev7
  cases hg
  exact z_zreturn hE rfl hbv7 dX12_isOneWay_55
set_option maxRecDepth 20000 in
theorem zb_X12_isOneWay_47 {N : Nat} {sh : Sh} {d : Dt} {k4 : Nat → Int32 → Int32 → Option Int32} {r : Int32} {E : EV} (hE : TG E (some (.int r)) (sh, d)) (hk4 : ∀ (l0 : Nat) (l1 : Int32) (l2 : Int32), k4 l0 l1 l2 = some r → Z E yX12_isOneWay cX12_isOneWay 3 (some .boolean) 3 (sh, d) 4 [(0, .ref l0), (1, .int l1), (2, .int l2)] []) {l0 : Nat} {l2 : Int32} {t0 : Int32} (hf : f_X12_isOneWay_47 N sh k4 l0 l2 t0 d = some r) : Z E yX12_isOneWay cX12_isOneWay 3 (some .boolean) 3 (sh, d) 47 [(0, .ref l0), (2, .int l2)] [.int t0] := by
  unfold f_X12_isOneWay_47 at hf
  refine z_istore_n [(1, .int t0), (0, .ref l0), (2, .int l2)] dX12_isOneWay_47 rfl (by decide) rfl ?_
  refine z_iinc [(2, .int (l2 + 1)), (1, .int t0), (0, .ref l0)] 2 (l2 + 1) dX12_isOneWay_48 rfl rfl (by decide) rfl ?_
  refine z_goto 4 dX12_isOneWay_51 (by decide) ?_
  refine z_lv [(0, .ref l0), (1, .int t0), (2, .int (l2 + 1))] [2, 1, 0] rfl ?_
  exact hk4 _ _ _ hf
set_option maxRecDepth 20000 in
theorem zb_X12_isOneWay_42 {N : Nat} {sh : Sh} {d : Dt} {k4 : Nat → Int32 → Int32 → Option Int32} {r : Int32} {E : EV} (hE : TG E (some (.int r)) (sh, d)) (hk4 : ∀ (l0 : Nat) (l1 : Int32) (l2 : Int32), k4 l0 l1 l2 = some r → Z E yX12_isOneWay cX12_isOneWay 3 (some .boolean) 3 (sh, d) 4 [(0, .ref l0), (1, .int l1), (2, .int l2)] []) {l0 : Nat} {l2 : Int32} (hf : f_X12_isOneWay_42 N sh k4 l0 l2 d = some r) : Z E yX12_isOneWay cX12_isOneWay 3 (some .boolean) 3 (sh, d) 42 [(0, .ref l0), (2, .int l2)] [] := by
  unfold f_X12_isOneWay_42 at hf
  refine z_iconst 1 1 dX12_isOneWay_42 (by decide) ?_
  refine z_goto 47 dX12_isOneWay_43 (by decide) ?_
  exact zb_X12_isOneWay_47 hE hk4 hf
set_option maxRecDepth 20000 in
theorem zb_X12_isOneWay_46 {N : Nat} {sh : Sh} {d : Dt} {k4 : Nat → Int32 → Int32 → Option Int32} {r : Int32} {E : EV} (hE : TG E (some (.int r)) (sh, d)) (hk4 : ∀ (l0 : Nat) (l1 : Int32) (l2 : Int32), k4 l0 l1 l2 = some r → Z E yX12_isOneWay cX12_isOneWay 3 (some .boolean) 3 (sh, d) 4 [(0, .ref l0), (1, .int l1), (2, .int l2)] []) {l0 : Nat} {l2 : Int32} (hf : f_X12_isOneWay_46 N sh k4 l0 l2 d = some r) : Z E yX12_isOneWay cX12_isOneWay 3 (some .boolean) 3 (sh, d) 46 [(0, .ref l0), (2, .int l2)] [] := by
  unfold f_X12_isOneWay_46 at hf
  refine z_iconst 0 0 dX12_isOneWay_46 (by decide) ?_
  exact zb_X12_isOneWay_47 hE hk4 hf
set_option maxRecDepth 20000 in
theorem zg_X12_isOneWay_4 {N : Nat} {sh : Sh} {d : Dt} {r : Int32} {k4 : Nat → Int32 → Int32 → Option Int32} {E : EV} (hE : TG E (some (.int r)) (sh, d))  (hk4 : ∀ (l0 : Nat) (l1 : Int32) (l2 : Int32), k4 l0 l1 l2 = some r → Z E yX12_isOneWay cX12_isOneWay 3 (some .boolean) 3 (sh, d) 4 [(0, .ref l0), (1, .int l1), (2, .int l2)] []) {l0 : Nat} {l1 : Int32} {l2 : Int32} (hf : g_X12_isOneWay_4 N sh k4 l0 l1 l2 d = some r) : Z E yX12_isOneWay cX12_isOneWay 3 (some .boolean) 3 (sh, d) 4 [(0, .ref l0), (1, .int l1), (2, .int l2)] [] := by
  unfold g_X12_isOneWay_4 at hf
  refine z_iload_n 2 dX12_isOneWay_4 rfl rfl ?_
  refine z_aload_n 0 dX12_isOneWay_5 rfl rfl ?_
  refine z_gP (ci := 12) (k := 0) (C := RX12) (T := TX12) (N := 32) rfl inlX12 (by decide) mw_6_19 (fun _ _ _ _ h9 => h9) hf (by decide) rfl dX12_isOneWay_6  (fun v1 hf => ?_)
  refine z_iconst 1 1 dX12_isOneWay_9 (by decide) ?_
  refine z_aI hf dX12_isOneWay_10  (fun v2 hf => ?_)
  refine z_icmp_ge 54 hf dX12_isOneWay_11 (by decide) (fun hf => ?_) (fun hf => ?_)
  · refine z_lv [(1, .int l1)] [1] rfl ?_
    exact zb_X12_isOneWay_54 hE hf
  · refine z_iload_n 1 dX12_isOneWay_14 rfl rfl ?_
    refine z_if_ne 42 hf dX12_isOneWay_15 (by decide) (fun hf => ?_) (fun hf => ?_)
    · refine z_lv [(0, .ref l0), (2, .int l2)] [0, 2] rfl ?_
      exact zb_X12_isOneWay_42 hE hk4 hf
    · refine z_aload_n 0 dX12_isOneWay_18 rfl rfl ?_
      refine z_iload_n 2 dX12_isOneWay_19 rfl rfl ?_
      obtain ⟨v3, ev3, hf⟩ := ob hf
      refine z_cVi (ci := 12) (T := TX12) (N := 32) (As := [.int l2]) (rest := []) (zm_X12_isOpen ev3).2 (zm_X12_isOpen ev3).1 (by decide) rfl (Or.inl rfl) mw_18_4 mw_18_5 mw_18_6 mw_1_5 mw_18_7 yk_X12_isOpen (by decide) (by decide) rfl (Nat.le_of_ble_eq_true rfl) rfl dX12_isOneWay_20 ?_
      refine z_if_eq 46 hf dX12_isOneWay_23 (by decide) (fun hf => ?_) (fun hf => ?_)
      · refine z_lv [(0, .ref l0), (2, .int l2)] [0, 2] rfl ?_
        exact zb_X12_isOneWay_46 hE hk4 hf
      · refine z_aload_n 0 dX12_isOneWay_26 rfl rfl ?_
        refine z_gP (ci := 12) (k := 0) (C := RX12) (T := TX12) (N := 32) rfl inlX12 (by decide) mw_6_19 (fun _ _ _ _ h9 => h9) hf (by decide) rfl dX12_isOneWay_27  (fun v4 hf => ?_)
        refine z_aload_n 0 dX12_isOneWay_30 rfl rfl ?_
        refine z_iload_n 2 dX12_isOneWay_31 rfl rfl ?_
        obtain ⟨v5, ev5, hf⟩ := ob hf
        refine z_cVi (ci := 12) (T := TX12) (N := 32) (As := [.int l2]) (rest := [.ref v4]) (zm_X12_st ev5).2 (zm_X12_st ev5).1 (by decide) rfl (Or.inl rfl) mw_13_10 mw_13_11 mw_13_12 mw_1_5 mw_13_13 yk_X12_st (by decide) (by decide) rfl (Nat.le_of_ble_eq_true rfl) rfl dX12_isOneWay_32 ?_
        refine z_iconst 5 5 dX12_isOneWay_35 (by decide) ?_
        refine z_iadd dX12_isOneWay_36 ?_
        refine z_aI hf dX12_isOneWay_37  (fun v6 hf => ?_)
        refine z_iconst 1 1 dX12_isOneWay_38 (by decide) ?_
        refine z_icmp_ne 46 hf dX12_isOneWay_39 (by decide) (fun hf => ?_) (fun hf => ?_)
        · refine z_lv [(0, .ref l0), (2, .int l2)] [0, 2] rfl ?_
          exact zb_X12_isOneWay_46 hE hk4 hf
        · refine z_lv [(0, .ref l0), (2, .int l2)] [0, 2] rfl ?_
          exact zb_X12_isOneWay_42 hE hk4 hf
set_option maxRecDepth 20000 in
theorem zb_X12_isOneWay_4 {N : Nat} {sh : Sh} {d : Dt} {r : Int32} {E : EV} (hE : TG E (some (.int r)) (sh, d))  : ∀ (n : Nat) (l0 : Nat) (l1 : Int32) (l2 : Int32), f_X12_isOneWay_4 N sh d n l0 l1 l2 = some r → Z E yX12_isOneWay cX12_isOneWay 3 (some .boolean) 3 (sh, d) 4 [(0, .ref l0), (1, .int l1), (2, .int l2)] [] := by
  intro n
  induction n with
  | zero => intro l0 l1 l2 hf; cases hf
  | succ n ih => intro l0 l1 l2 hf; exact zg_X12_isOneWay_4 hE ih hf
set_option maxRecDepth 20000 in
theorem zm_X12_isOneWay {N : Nat} {sh : Sh} {d : Dt} {l0 : Nat} {r : Int32} (hf : f_X12_isOneWay N sh l0 d = some r) : isO sh l0 12 ∧ ∀ (l : Launch) (G : GG), Mt l G yX12_isOneWay cX12_isOneWay 3 (some .boolean) 3 [.ref l0] (sh, d) (some (.int r)) (sh, d) := by
  have hf0 := hf
  unfold f_X12_isOneWay at hf
  split at hf
  · rename_i hO
    refine ⟨hO, fun l G => mt_of (Or.inl (by decide)) (Nat.le_of_ble_eq_true rfl) Le.rf (fun E hE => ?_)⟩
    show Z E yX12_isOneWay cX12_isOneWay 3 (some .boolean) 3 (sh, d) 0 [(0, .ref l0)] []
    refine z_iconst 0 0 dX12_isOneWay_0 (by decide) ?_
    refine z_istore_n [(1, .int (0 : Int32)), (0, .ref l0)] dX12_isOneWay_1 rfl (by decide) rfl ?_
    refine z_iconst 0 0 dX12_isOneWay_2 (by decide) ?_
    refine z_istore_n [(2, .int (0 : Int32)), (1, .int (0 : Int32)), (0, .ref l0)] dX12_isOneWay_3 rfl (by decide) rfl ?_
    refine z_lv [(0, .ref l0), (1, .int (0 : Int32)), (2, .int (0 : Int32))] [2, 1, 0] rfl ?_
    exact zb_X12_isOneWay_4 hE N _ _ _ hf
  · cases hf
set_option maxRecDepth 20000 in
theorem zb_X12_joinsAll_186 {N : Nat} {sh : Sh} {r : Int32 × Dt} {E : EV} (hE : TG E (some (.int r.1)) (sh, r.2))   {d : Dt} (hf : f_X12_joinsAll_186 N sh  d = some r) : Z E yX12_joinsAll cX12_joinsAll 8 (some .boolean) 5 (sh, d) 186 [] [] := by
  unfold f_X12_joinsAll_186 at hf
  refine z_iconst 1 1 dX12_joinsAll_186 (by decide) ?_
  cases hf
  exact z_zreturn hE rfl (by decide) dX12_joinsAll_187
set_option maxRecDepth 20000 in
theorem zb_X12_joinsAll_155 {N : Nat} {sh : Sh} {r : Int32 × Dt} {E : EV} (hE : TG E (some (.int r.1)) (sh, r.2))   {d : Dt} (hf : f_X12_joinsAll_155 N sh  d = some r) : Z E yX12_joinsAll cX12_joinsAll 8 (some .boolean) 5 (sh, d) 155 [] [] := by
  unfold f_X12_joinsAll_155 at hf
  refine z_iconst 0 0 dX12_joinsAll_155 (by decide) ?_
  cases hf
  exact z_zreturn hE rfl (by decide) dX12_joinsAll_156
set_option maxRecDepth 20000 in
theorem zb_X12_joinsAll_149 {N : Nat} {sh : Sh} {k14 : Nat → Dt → Option (Int32 × Dt)} {r : Int32 × Dt} {E : EV} (hE : TG E (some (.int r.1)) (sh, r.2)) (hk14 : ∀ (l0 : Nat) (d : Dt), k14 l0 d = some r → Z E yX12_joinsAll cX12_joinsAll 8 (some .boolean) 5 (sh, d) 14 [(0, .ref l0)] []) {l0 : Nat} {l1 : Int32} {l2 : Int32} {l3 : Int32} {d : Dt} (hf : f_X12_joinsAll_149 N sh k14 l0 l1 l2 l3 d = some r) : Z E yX12_joinsAll cX12_joinsAll 8 (some .boolean) 5 (sh, d) 149 [(0, .ref l0), (1, .int l1), (2, .int l2), (3, .int l3)] [] := by
  unfold f_X12_joinsAll_149 at hf
  refine z_iload_n 3 dX12_joinsAll_149 rfl rfl ?_
  refine z_ldc mw_17_19 dX12_joinsAll_150 ?_
  refine z_icmp_lt 157 hf dX12_joinsAll_152 (by decide) (fun hf => ?_) (fun hf => ?_)
  · refine z_aload_n 0 dX12_joinsAll_157 rfl rfl ?_
    refine z_iload_n 1 dX12_joinsAll_158 rfl rfl ?_
    refine z_iload_n 2 dX12_joinsAll_159 rfl rfl ?_
    refine z_iconst 2 2 dX12_joinsAll_160 (by decide) ?_
    obtain ⟨v9, ev9, hf⟩ := ob hf
    refine z_cVv (ci := 12) (T := TX12) (N := 32) (As := [.int l1, .int l2, .int (2 : Int32)]) (rest := []) (zm_X12_adds ev9).2 (zm_X12_adds ev9).1 (by decide) rfl (Or.inl rfl) mw_50_5 mw_50_6 mw_50_7 mw_1_5 mw_50_8 yk_X12_adds (by decide) (by decide) rfl (Nat.le_of_ble_eq_true rfl) rfl dX12_joinsAll_161 ?_
    refine z_aload_n 0 dX12_joinsAll_164 rfl rfl ?_
    refine z_dup dX12_joinsAll_165 rfl ?_
    refine z_gI (ci := 12) (k := 19) (C := RX12) (T := TX12) (N := 32) rfl inlX12 (by decide) mw_48_17 (fun _ _ _ _ h9 => h9) hf (by decide) rfl dX12_joinsAll_166  (fun v10 hf => ?_)
    refine z_iconst 1 1 dX12_joinsAll_169 (by decide) ?_
    refine z_iadd dX12_joinsAll_170 ?_
    refine z_pI (ci := 12) (k := 19) (C := RX12) (T := TX12) (N := 32) rfl inlX12 (by decide) mw_48_17 (fun _ _ _ _ h9 => h9) tyX12 tyX12_ok nmX12 rfl hf (Or.inl (by decide)) rfl rfl rfl dX12_joinsAll_171  (fun d11 hf => ?_)
    refine z_aload_n 0 dX12_joinsAll_174 rfl rfl ?_
    refine z_iconst 0 0 dX12_joinsAll_175 (by decide) ?_
    refine z_aload_n 0 dX12_joinsAll_176 rfl rfl ?_
    refine z_gP (ci := 12) (k := 14) (C := RX12) (T := TX12) (N := 32) rfl inlX12 (by decide) mw_7_4 (fun _ _ _ _ h9 => h9) hf (by decide) rfl dX12_joinsAll_177  (fun v12 hf => ?_)
    obtain ⟨v13, ev13, hf⟩ := ob hf
    refine z_cVv (ci := 12) (T := TX12) (N := 32) (As := [.int (0 : Int32), .ref v12]) (rest := []) (zm_X12_follows ev13).2 (zm_X12_follows ev13).1 (by decide) rfl (Or.inl rfl) mw_49_17 mw_49_18 mw_49_19 mw_1_5 mw_49_20 yk_X12_follows (by decide) (by decide) rfl (Nat.le_of_ble_eq_true rfl) rfl dX12_joinsAll_180 ?_
    refine z_goto 14 dX12_joinsAll_183 (by decide) ?_
    refine z_lv [(0, .ref l0)] [0] rfl ?_
    exact hk14 _ _ hf
  · refine z_lv [] [] rfl ?_
    exact zb_X12_joinsAll_155 hE hf
set_option maxRecDepth 20000 in
theorem zb_X12_joinsAll_143 {N : Nat} {sh : Sh} {k14 : Nat → Dt → Option (Int32 × Dt)} {k35 : Nat → Int32 → Int32 → Int32 → Int32 → Dt → Option (Int32 × Dt)} {r : Int32 × Dt} {E : EV} (hE : TG E (some (.int r.1)) (sh, r.2)) (hk14 : ∀ (l0 : Nat) (d : Dt), k14 l0 d = some r → Z E yX12_joinsAll cX12_joinsAll 8 (some .boolean) 5 (sh, d) 14 [(0, .ref l0)] []) (hk35 : ∀ (l0 : Nat) (l1 : Int32) (l2 : Int32) (l3 : Int32) (l4 : Int32) (d : Dt), k35 l0 l1 l2 l3 l4 d = some r → Z E yX12_joinsAll cX12_joinsAll 8 (some .boolean) 5 (sh, d) 35 [(0, .ref l0), (1, .int l1), (2, .int l2), (3, .int l3), (4, .int l4)] []) {l0 : Nat} {l1 : Int32} {l2 : Int32} {l3 : Int32} {l4 : Int32} {d : Dt} (hf : f_X12_joinsAll_143 N sh k14 k35 l0 l1 l2 l3 l4 d = some r) : Z E yX12_joinsAll cX12_joinsAll 8 (some .boolean) 5 (sh, d) 143 [(0, .ref l0), (1, .int l1), (2, .int l2), (3, .int l3), (4, .int l4)] [] := by
  unfold f_X12_joinsAll_143 at hf
  refine z_iinc [(4, .int (l4 + 1)), (0, .ref l0), (1, .int l1), (2, .int l2), (3, .int l3)] 4 (l4 + 1) dX12_joinsAll_143 rfl rfl (by decide) rfl ?_
  refine z_goto 35 dX12_joinsAll_146 (by decide) ?_
  refine z_lv [(0, .ref l0), (1, .int l1), (2, .int l2), (3, .int l3), (4, .int (l4 + 1))] [1, 2, 3, 4, 0] rfl ?_
  exact hk35 _ _ _ _ _ _ hf
set_option maxRecDepth 20000 in
theorem zb_X12_joinsAll_137 {N : Nat} {sh : Sh} {k14 : Nat → Dt → Option (Int32 × Dt)} {k35 : Nat → Int32 → Int32 → Int32 → Int32 → Dt → Option (Int32 × Dt)} {k57 : Nat → Int32 → Int32 → Int32 → Int32 → Int32 → Int32 → Dt → Option (Int32 × Dt)} {r : Int32 × Dt} {E : EV} (hE : TG E (some (.int r.1)) (sh, r.2)) (hk14 : ∀ (l0 : Nat) (d : Dt), k14 l0 d = some r → Z E yX12_joinsAll cX12_joinsAll 8 (some .boolean) 5 (sh, d) 14 [(0, .ref l0)] []) (hk35 : ∀ (l0 : Nat) (l1 : Int32) (l2 : Int32) (l3 : Int32) (l4 : Int32) (d : Dt), k35 l0 l1 l2 l3 l4 d = some r → Z E yX12_joinsAll cX12_joinsAll 8 (some .boolean) 5 (sh, d) 35 [(0, .ref l0), (1, .int l1), (2, .int l2), (3, .int l3), (4, .int l4)] []) (hk57 : ∀ (l0 : Nat) (l1 : Int32) (l2 : Int32) (l3 : Int32) (l4 : Int32) (l5 : Int32) (l6 : Int32) (d : Dt), k57 l0 l1 l2 l3 l4 l5 l6 d = some r → Z E yX12_joinsAll cX12_joinsAll 8 (some .boolean) 5 (sh, d) 57 [(0, .ref l0), (1, .int l1), (2, .int l2), (3, .int l3), (4, .int l4), (5, .int l5), (6, .int l6)] []) {l0 : Nat} {l1 : Int32} {l2 : Int32} {l3 : Int32} {l4 : Int32} {l5 : Int32} {l6 : Int32} {d : Dt} (hf : f_X12_joinsAll_137 N sh k14 k35 k57 l0 l1 l2 l3 l4 l5 l6 d = some r) : Z E yX12_joinsAll cX12_joinsAll 8 (some .boolean) 5 (sh, d) 137 [(0, .ref l0), (1, .int l1), (2, .int l2), (3, .int l3), (4, .int l4), (5, .int l5), (6, .int l6)] [] := by
  unfold f_X12_joinsAll_137 at hf
  refine z_iinc [(6, .int (l6 + 1)), (0, .ref l0), (1, .int l1), (2, .int l2), (3, .int l3), (4, .int l4), (5, .int l5)] 6 (l6 + 1) dX12_joinsAll_137 rfl rfl (by decide) rfl ?_
  refine z_goto 57 dX12_joinsAll_140 (by decide) ?_
  refine z_lv [(0, .ref l0), (1, .int l1), (2, .int l2), (3, .int l3), (4, .int l4), (5, .int l5), (6, .int (l6 + 1))] [1, 2, 3, 4, 5, 6, 0] rfl ?_
  exact hk57 _ _ _ _ _ _ _ _ hf
set_option maxRecDepth 20000 in
theorem zb_X12_joinsAll_128 {N : Nat} {sh : Sh} {k14 : Nat → Dt → Option (Int32 × Dt)} {k35 : Nat → Int32 → Int32 → Int32 → Int32 → Dt → Option (Int32 × Dt)} {k57 : Nat → Int32 → Int32 → Int32 → Int32 → Int32 → Int32 → Dt → Option (Int32 × Dt)} {r : Int32 × Dt} {E : EV} (hE : TG E (some (.int r.1)) (sh, r.2)) (hk14 : ∀ (l0 : Nat) (d : Dt), k14 l0 d = some r → Z E yX12_joinsAll cX12_joinsAll 8 (some .boolean) 5 (sh, d) 14 [(0, .ref l0)] []) (hk35 : ∀ (l0 : Nat) (l1 : Int32) (l2 : Int32) (l3 : Int32) (l4 : Int32) (d : Dt), k35 l0 l1 l2 l3 l4 d = some r → Z E yX12_joinsAll cX12_joinsAll 8 (some .boolean) 5 (sh, d) 35 [(0, .ref l0), (1, .int l1), (2, .int l2), (3, .int l3), (4, .int l4)] []) (hk57 : ∀ (l0 : Nat) (l1 : Int32) (l2 : Int32) (l3 : Int32) (l4 : Int32) (l5 : Int32) (l6 : Int32) (d : Dt), k57 l0 l1 l2 l3 l4 l5 l6 d = some r → Z E yX12_joinsAll cX12_joinsAll 8 (some .boolean) 5 (sh, d) 57 [(0, .ref l0), (1, .int l1), (2, .int l2), (3, .int l3), (4, .int l4), (5, .int l5), (6, .int l6)] []) {l0 : Nat} {l4 : Int32} {l5 : Int32} {l6 : Int32} {l7 : Int32} {d : Dt} (hf : f_X12_joinsAll_128 N sh k14 k35 k57 l0 l4 l5 l6 l7 d = some r) : Z E yX12_joinsAll cX12_joinsAll 8 (some .boolean) 5 (sh, d) 128 [(0, .ref l0), (4, .int l4), (5, .int l5), (6, .int l6), (7, .int l7)] [] := by
  unfold f_X12_joinsAll_128 at hf
  refine z_iload 4 dX12_joinsAll_128 rfl ?_
  refine z_istore_n [(3, .int l7), (0, .ref l0), (4, .int l4), (5, .int l5), (6, .int l6), (7, .int l7)] dX12_joinsAll_130 rfl (by decide) rfl ?_
  refine z_iload 4 dX12_joinsAll_131 rfl ?_
  refine z_istore_n [(1, .int l6), (3, .int l7), (0, .ref l0), (4, .int l4), (5, .int l5), (6, .int l6), (7, .int l7)] dX12_joinsAll_133 rfl (by decide) rfl ?_
  refine z_iload 3 dX12_joinsAll_134 rfl ?_
  refine z_istore_n [(2, .int l4), (1, .int l6), (3, .int l7), (0, .ref l0), (4, .int l4), (5, .int l5), (6, .int l6), (7, .int l7)] dX12_joinsAll_136 rfl (by decide) rfl ?_
  refine z_lv [(0, .ref l0), (1, .int l6), (2, .int l4), (3, .int l7), (4, .int l4), (5, .int l5), (6, .int l6)] [3, 1, 0, 2, 4, 5, 6] rfl ?_
  exact zb_X12_joinsAll_137 hE hk14 hk35 hk57 hf
set_option maxRecDepth 20000 in
theorem zb_X12_joinsAll_101 {N : Nat} {sh : Sh} {k14 : Nat → Dt → Option (Int32 × Dt)} {k35 : Nat → Int32 → Int32 → Int32 → Int32 → Dt → Option (Int32 × Dt)} {k57 : Nat → Int32 → Int32 → Int32 → Int32 → Int32 → Int32 → Dt → Option (Int32 × Dt)} {r : Int32 × Dt} {E : EV} (hE : TG E (some (.int r.1)) (sh, r.2)) (hk14 : ∀ (l0 : Nat) (d : Dt), k14 l0 d = some r → Z E yX12_joinsAll cX12_joinsAll 8 (some .boolean) 5 (sh, d) 14 [(0, .ref l0)] []) (hk35 : ∀ (l0 : Nat) (l1 : Int32) (l2 : Int32) (l3 : Int32) (l4 : Int32) (d : Dt), k35 l0 l1 l2 l3 l4 d = some r → Z E yX12_joinsAll cX12_joinsAll 8 (some .boolean) 5 (sh, d) 35 [(0, .ref l0), (1, .int l1), (2, .int l2), (3, .int l3), (4, .int l4)] []) (hk57 : ∀ (l0 : Nat) (l1 : Int32) (l2 : Int32) (l3 : Int32) (l4 : Int32) (l5 : Int32) (l6 : Int32) (d : Dt), k57 l0 l1 l2 l3 l4 l5 l6 d = some r → Z E yX12_joinsAll cX12_joinsAll 8 (some .boolean) 5 (sh, d) 57 [(0, .ref l0), (1, .int l1), (2, .int l2), (3, .int l3), (4, .int l4), (5, .int l5), (6, .int l6)] []) {l0 : Nat} {l1 : Int32} {l2 : Int32} {l3 : Int32} {l4 : Int32} {l5 : Int32} {l6 : Int32} {t0 : Int32} {d : Dt} (hf : f_X12_joinsAll_101 N sh k14 k35 k57 l0 l1 l2 l3 l4 l5 l6 t0 d = some r) : Z E yX12_joinsAll cX12_joinsAll 8 (some .boolean) 5 (sh, d) 101 [(0, .ref l0), (1, .int l1), (2, .int l2), (3, .int l3), (4, .int l4), (5, .int l5), (6, .int l6)] [.int t0] := by
  unfold f_X12_joinsAll_101 at hf
  refine z_istore [(7, .int t0), (0, .ref l0), (1, .int l1), (2, .int l2), (3, .int l3), (4, .int l4), (5, .int l5), (6, .int l6)] dX12_joinsAll_101 (by decide) rfl ?_
  refine z_iload 0 dX12_joinsAll_103 rfl ?_
  refine z_iload_n 4 dX12_joinsAll_105 rfl rfl ?_
  refine z_icmp_lt 128 hf dX12_joinsAll_106 (by decide) (fun hf => ?_) (fun hf => ?_)
  · refine z_lv [(0, .ref l0), (4, .int l4), (5, .int l5), (6, .int l6), (7, .int t0)] [1, 5, 6, 7, 0] rfl ?_
    exact zb_X12_joinsAll_128 hE hk14 hk35 hk57 hf
  · refine z_iload 0 dX12_joinsAll_109 rfl ?_
    refine z_iload_n 4 dX12_joinsAll_111 rfl rfl ?_
    refine z_icmp_ne 137 hf dX12_joinsAll_112 (by decide) (fun hf => ?_) (fun hf => ?_)
    · refine z_lv [(0, .ref l0), (1, .int l1), (2, .int l2), (3, .int l3), (4, .int l4), (5, .int l5), (6, .int l6)] [1, 2, 3, 4, 5, 6, 7] rfl ?_
      exact zb_X12_joinsAll_137 hE hk14 hk35 hk57 hf
    · refine z_iload 0 dX12_joinsAll_115 rfl ?_
      refine z_ldc mw_17_19 dX12_joinsAll_117 ?_
      refine z_icmp_ge 137 hf dX12_joinsAll_119 (by decide) (fun hf => ?_) (fun hf => ?_)
      · refine z_lv [(0, .ref l0), (1, .int l1), (2, .int l2), (3, .int l3), (4, .int l4), (5, .int l5), (6, .int l6)] [1, 2, 3, 4, 5, 6, 7] rfl ?_
        exact zb_X12_joinsAll_137 hE hk14 hk35 hk57 hf
      · refine z_iload 7 dX12_joinsAll_122 rfl ?_
        refine z_iload_n 2 dX12_joinsAll_124 rfl rfl ?_
        refine z_icmp_ge 137 hf dX12_joinsAll_125 (by decide) (fun hf => ?_) (fun hf => ?_)
        · refine z_lv [(0, .ref l0), (1, .int l1), (2, .int l2), (3, .int l3), (4, .int l4), (5, .int l5), (6, .int l6)] [1, 2, 3, 4, 5, 6, 7] rfl ?_
          exact zb_X12_joinsAll_137 hE hk14 hk35 hk57 hf
        · refine z_lv [(0, .ref l0), (4, .int l4), (5, .int l5), (6, .int l6), (7, .int t0)] [1, 5, 6, 7, 0] rfl ?_
          exact zb_X12_joinsAll_128 hE hk14 hk35 hk57 hf
set_option maxRecDepth 20000 in
theorem zg_X12_joinsAll_57 {N : Nat} {sh : Sh} {k14 : Nat → Dt → Option (Int32 × Dt)} {k35 : Nat → Int32 → Int32 → Int32 → Int32 → Dt → Option (Int32 × Dt)} {r : Int32 × Dt} {k57 : Nat → Int32 → Int32 → Int32 → Int32 → Int32 → Int32 → Dt → Option (Int32 × Dt)} {E : EV} (hE : TG E (some (.int r.1)) (sh, r.2)) (hk14 : ∀ (l0 : Nat) (d : Dt), k14 l0 d = some r → Z E yX12_joinsAll cX12_joinsAll 8 (some .boolean) 5 (sh, d) 14 [(0, .ref l0)] []) (hk35 : ∀ (l0 : Nat) (l1 : Int32) (l2 : Int32) (l3 : Int32) (l4 : Int32) (d : Dt), k35 l0 l1 l2 l3 l4 d = some r → Z E yX12_joinsAll cX12_joinsAll 8 (some .boolean) 5 (sh, d) 35 [(0, .ref l0), (1, .int l1), (2, .int l2), (3, .int l3), (4, .int l4)] []) (hk57 : ∀ (l0 : Nat) (l1 : Int32) (l2 : Int32) (l3 : Int32) (l4 : Int32) (l5 : Int32) (l6 : Int32) (d : Dt), k57 l0 l1 l2 l3 l4 l5 l6 d = some r → Z E yX12_joinsAll cX12_joinsAll 8 (some .boolean) 5 (sh, d) 57 [(0, .ref l0), (1, .int l1), (2, .int l2), (3, .int l3), (4, .int l4), (5, .int l5), (6, .int l6)] []) {l0 : Nat} {l1 : Int32} {l2 : Int32} {l3 : Int32} {l4 : Int32} {l5 : Int32} {l6 : Int32} {d : Dt} (hf : g_X12_joinsAll_57 N sh k14 k35 k57 l0 l1 l2 l3 l4 l5 l6 d = some r) : Z E yX12_joinsAll cX12_joinsAll 8 (some .boolean) 5 (sh, d) 57 [(0, .ref l0), (1, .int l1), (2, .int l2), (3, .int l3), (4, .int l4), (5, .int l5), (6, .int l6)] [] := by
  unfold g_X12_joinsAll_57 at hf
  refine z_iload 6 dX12_joinsAll_57 rfl ?_
  refine z_aload_n 0 dX12_joinsAll_59 rfl rfl ?_
  refine z_gP (ci := 12) (k := 0) (C := RX12) (T := TX12) (N := 32) rfl inlX12 (by decide) mw_6_19 (fun _ _ _ _ h9 => h9) hf (by decide) rfl dX12_joinsAll_60  (fun v14 hf => ?_)
  refine z_iconst 0 0 dX12_joinsAll_63 (by decide) ?_
  refine z_aI hf dX12_joinsAll_64  (fun v15 hf => ?_)
  refine z_icmp_ge 143 hf dX12_joinsAll_65 (by decide) (fun hf => ?_) (fun hf => ?_)
  · refine z_lv [(0, .ref l0), (1, .int l1), (2, .int l2), (3, .int l3), (4, .int l4)] [0, 1, 2, 3, 4] rfl ?_
    exact zb_X12_joinsAll_143 hE hk14 hk35 hf
  · refine z_iload 5 dX12_joinsAll_68 rfl ?_
    refine z_if_eq 143 hf dX12_joinsAll_70 (by decide) (fun hf => ?_) (fun hf => ?_)
    · refine z_lv [(0, .ref l0), (1, .int l1), (2, .int l2), (3, .int l3), (4, .int l4)] [0, 1, 2, 3, 4] rfl ?_
      exact zb_X12_joinsAll_143 hE hk14 hk35 hf
    · refine z_aload_n 0 dX12_joinsAll_73 rfl rfl ?_
      refine z_gP (ci := 12) (k := 17) (C := RX12) (T := TX12) (N := 32) rfl inlX12 (by decide) mw_7_6 (fun _ _ _ _ h9 => h9) hf (by decide) rfl dX12_joinsAll_74  (fun v16 hf => ?_)
      refine z_iload 6 dX12_joinsAll_77 rfl ?_
      refine z_aZ hf dX12_joinsAll_79  (fun v17 hf => ?_)
      refine z_if_eq 99 hf dX12_joinsAll_80 (by decide) (fun hf => ?_) (fun hf => ?_)
      · refine z_ldc mw_17_19 dX12_joinsAll_99 ?_
        exact zb_X12_joinsAll_101 hE hk14 hk35 hk57 hf
      · refine z_aload_n 0 dX12_joinsAll_83 rfl rfl ?_
        refine z_gP (ci := 12) (k := 9) (C := RX12) (T := TX12) (N := 32) rfl inlX12 (by decide) mw_6_23 (fun _ _ _ _ h9 => h9) hf (by decide) rfl dX12_joinsAll_84  (fun v18 hf => ?_)
        refine z_bipush 60 60 dX12_joinsAll_87 (by decide) ?_
        refine z_iload 6 dX12_joinsAll_89 rfl ?_
        refine z_imul dX12_joinsAll_91 ?_
        refine z_iload 4 dX12_joinsAll_92 rfl ?_
        refine z_iadd dX12_joinsAll_94 ?_
        refine z_aI hf dX12_joinsAll_95  (fun v19 hf => ?_)
        refine z_goto 101 dX12_joinsAll_96 (by decide) ?_
        exact zb_X12_joinsAll_101 hE hk14 hk35 hk57 hf
set_option maxRecDepth 20000 in
theorem zb_X12_joinsAll_57 {N : Nat} {sh : Sh} {k14 : Nat → Dt → Option (Int32 × Dt)} {k35 : Nat → Int32 → Int32 → Int32 → Int32 → Dt → Option (Int32 × Dt)} {r : Int32 × Dt} {E : EV} (hE : TG E (some (.int r.1)) (sh, r.2)) (hk14 : ∀ (l0 : Nat) (d : Dt), k14 l0 d = some r → Z E yX12_joinsAll cX12_joinsAll 8 (some .boolean) 5 (sh, d) 14 [(0, .ref l0)] []) (hk35 : ∀ (l0 : Nat) (l1 : Int32) (l2 : Int32) (l3 : Int32) (l4 : Int32) (d : Dt), k35 l0 l1 l2 l3 l4 d = some r → Z E yX12_joinsAll cX12_joinsAll 8 (some .boolean) 5 (sh, d) 35 [(0, .ref l0), (1, .int l1), (2, .int l2), (3, .int l3), (4, .int l4)] []) : ∀ (n : Nat) (l0 : Nat) (l1 : Int32) (l2 : Int32) (l3 : Int32) (l4 : Int32) (l5 : Int32) (l6 : Int32) (d : Dt), f_X12_joinsAll_57 N sh k14 k35 n l0 l1 l2 l3 l4 l5 l6 d = some r → Z E yX12_joinsAll cX12_joinsAll 8 (some .boolean) 5 (sh, d) 57 [(0, .ref l0), (1, .int l1), (2, .int l2), (3, .int l3), (4, .int l4), (5, .int l5), (6, .int l6)] [] := by
  intro n
  induction n with
  | zero => intro l0 l1 l2 l3 l4 l5 l6 d hf; cases hf
  | succ n ih => intro l0 l1 l2 l3 l4 l5 l6 d hf; exact zg_X12_joinsAll_57 hE hk14 hk35 ih hf
set_option maxRecDepth 20000 in
theorem zg_X12_joinsAll_35 {N : Nat} {sh : Sh} {k14 : Nat → Dt → Option (Int32 × Dt)} {r : Int32 × Dt} {k35 : Nat → Int32 → Int32 → Int32 → Int32 → Dt → Option (Int32 × Dt)} {E : EV} (hE : TG E (some (.int r.1)) (sh, r.2)) (hk14 : ∀ (l0 : Nat) (d : Dt), k14 l0 d = some r → Z E yX12_joinsAll cX12_joinsAll 8 (some .boolean) 5 (sh, d) 14 [(0, .ref l0)] []) (hk35 : ∀ (l0 : Nat) (l1 : Int32) (l2 : Int32) (l3 : Int32) (l4 : Int32) (d : Dt), k35 l0 l1 l2 l3 l4 d = some r → Z E yX12_joinsAll cX12_joinsAll 8 (some .boolean) 5 (sh, d) 35 [(0, .ref l0), (1, .int l1), (2, .int l2), (3, .int l3), (4, .int l4)] []) {l0 : Nat} {l1 : Int32} {l2 : Int32} {l3 : Int32} {l4 : Int32} {d : Dt} (hf : g_X12_joinsAll_35 N sh k14 k35 l0 l1 l2 l3 l4 d = some r) : Z E yX12_joinsAll cX12_joinsAll 8 (some .boolean) 5 (sh, d) 35 [(0, .ref l0), (1, .int l1), (2, .int l2), (3, .int l3), (4, .int l4)] [] := by
  unfold g_X12_joinsAll_35 at hf
  refine z_iload 4 dX12_joinsAll_35 rfl ?_
  refine z_aload_n 0 dX12_joinsAll_37 rfl rfl ?_
  refine z_gP (ci := 12) (k := 0) (C := RX12) (T := TX12) (N := 32) rfl inlX12 (by decide) mw_6_19 (fun _ _ _ _ h9 => h9) hf (by decide) rfl dX12_joinsAll_38  (fun v6 hf => ?_)
  refine z_iconst 0 0 dX12_joinsAll_41 (by decide) ?_
  refine z_aI hf dX12_joinsAll_42  (fun v7 hf => ?_)
  refine z_icmp_ge 149 hf dX12_joinsAll_43 (by decide) (fun hf => ?_) (fun hf => ?_)
  · refine z_lv [(0, .ref l0), (1, .int l1), (2, .int l2), (3, .int l3)] [0, 1, 2, 3] rfl ?_
    exact zb_X12_joinsAll_149 hE hk14 hf
  · refine z_aload_n 0 dX12_joinsAll_46 rfl rfl ?_
    refine z_iload 4 dX12_joinsAll_47 rfl ?_
    obtain ⟨v8, ev8, hf⟩ := ob hf
    refine z_cVi (ci := 12) (T := TX12) (N := 32) (As := [.int l4]) (rest := []) (zm_X12_isApart ev8).2 (zm_X12_isApart ev8).1 (by decide) rfl (Or.inl rfl) mw_50_1 mw_50_2 mw_50_3 mw_1_5 mw_50_4 yk_X12_isApart (by decide) (by decide) rfl (Nat.le_of_ble_eq_true rfl) rfl dX12_joinsAll_49 ?_
    refine z_istore [(5, .int v8), (0, .ref l0), (1, .int l1), (2, .int l2), (3, .int l3), (4, .int l4)] dX12_joinsAll_52 (by decide) rfl ?_
    refine z_iconst 0 0 dX12_joinsAll_54 (by decide) ?_
    refine z_istore [(6, .int (0 : Int32)), (5, .int v8), (0, .ref l0), (1, .int l1), (2, .int l2), (3, .int l3), (4, .int l4)] dX12_joinsAll_55 (by decide) rfl ?_
    refine z_lv [(0, .ref l0), (1, .int l1), (2, .int l2), (3, .int l3), (4, .int l4), (5, .int v8), (6, .int (0 : Int32))] [2, 3, 4, 5, 6, 1, 0] rfl ?_
    exact zb_X12_joinsAll_57 hE hk14 hk35 N _ _ _ _ _ _ _ _ hf
set_option maxRecDepth 20000 in
theorem zb_X12_joinsAll_35 {N : Nat} {sh : Sh} {k14 : Nat → Dt → Option (Int32 × Dt)} {r : Int32 × Dt} {E : EV} (hE : TG E (some (.int r.1)) (sh, r.2)) (hk14 : ∀ (l0 : Nat) (d : Dt), k14 l0 d = some r → Z E yX12_joinsAll cX12_joinsAll 8 (some .boolean) 5 (sh, d) 14 [(0, .ref l0)] []) : ∀ (n : Nat) (l0 : Nat) (l1 : Int32) (l2 : Int32) (l3 : Int32) (l4 : Int32) (d : Dt), f_X12_joinsAll_35 N sh k14 n l0 l1 l2 l3 l4 d = some r → Z E yX12_joinsAll cX12_joinsAll 8 (some .boolean) 5 (sh, d) 35 [(0, .ref l0), (1, .int l1), (2, .int l2), (3, .int l3), (4, .int l4)] [] := by
  intro n
  induction n with
  | zero => intro l0 l1 l2 l3 l4 d hf; cases hf
  | succ n ih => intro l0 l1 l2 l3 l4 d hf; exact zg_X12_joinsAll_35 hE hk14 ih hf
set_option maxRecDepth 20000 in
theorem zg_X12_joinsAll_14 {N : Nat} {sh : Sh} {r : Int32 × Dt} {k14 : Nat → Dt → Option (Int32 × Dt)} {E : EV} (hE : TG E (some (.int r.1)) (sh, r.2))  (hk14 : ∀ (l0 : Nat) (d : Dt), k14 l0 d = some r → Z E yX12_joinsAll cX12_joinsAll 8 (some .boolean) 5 (sh, d) 14 [(0, .ref l0)] []) {l0 : Nat} {d : Dt} (hf : g_X12_joinsAll_14 N sh k14 l0 d = some r) : Z E yX12_joinsAll cX12_joinsAll 8 (some .boolean) 5 (sh, d) 14 [(0, .ref l0)] [] := by
  unfold g_X12_joinsAll_14 at hf
  refine z_aload_n 0 dX12_joinsAll_14 rfl rfl ?_
  refine z_aload_n 0 dX12_joinsAll_15 rfl rfl ?_
  refine z_gP (ci := 12) (k := 14) (C := RX12) (T := TX12) (N := 32) rfl inlX12 (by decide) mw_7_4 (fun _ _ _ _ h9 => h9) hf (by decide) rfl dX12_joinsAll_16  (fun v4 hf => ?_)
  obtain ⟨v5, ev5, hf⟩ := ob hf
  refine z_cVi (ci := 12) (T := TX12) (N := 32) (As := [.ref v4]) (rest := []) (zm_X12_hasMore ev5).2 (zm_X12_hasMore ev5).1 (by decide) rfl (Or.inl rfl) mw_49_21 mw_49_22 mw_49_23 mw_1_5 mw_50_0 yk_X12_hasMore (by decide) (by decide) rfl (Nat.le_of_ble_eq_true rfl) rfl dX12_joinsAll_19 ?_
  refine z_if_eq 186 hf dX12_joinsAll_22 (by decide) (fun hf => ?_) (fun hf => ?_)
  · refine z_lv [] [] rfl ?_
    exact zb_X12_joinsAll_186 hE hf
  · refine z_iconst (-1) (-1) dX12_joinsAll_25 (by decide) ?_
    refine z_istore_n [(1, .int (-1 : Int32)), (0, .ref l0)] dX12_joinsAll_26 rfl (by decide) rfl ?_
    refine z_iconst (-1) (-1) dX12_joinsAll_27 (by decide) ?_
    refine z_istore_n [(2, .int (-1 : Int32)), (1, .int (-1 : Int32)), (0, .ref l0)] dX12_joinsAll_28 rfl (by decide) rfl ?_
    refine z_ldc mw_17_19 dX12_joinsAll_29 ?_
    refine z_istore_n [(3, .int (268435456 : Int32)), (2, .int (-1 : Int32)), (1, .int (-1 : Int32)), (0, .ref l0)] dX12_joinsAll_31 rfl (by decide) rfl ?_
    refine z_iconst 0 0 dX12_joinsAll_32 (by decide) ?_
    refine z_istore [(4, .int (0 : Int32)), (3, .int (268435456 : Int32)), (2, .int (-1 : Int32)), (1, .int (-1 : Int32)), (0, .ref l0)] dX12_joinsAll_33 (by decide) rfl ?_
    refine z_lv [(0, .ref l0), (1, .int (-1 : Int32)), (2, .int (-1 : Int32)), (3, .int (268435456 : Int32)), (4, .int (0 : Int32))] [4, 3, 2, 1, 0] rfl ?_
    exact zb_X12_joinsAll_35 hE hk14 N _ _ _ _ _ _ hf
set_option maxRecDepth 20000 in
theorem zb_X12_joinsAll_14 {N : Nat} {sh : Sh} {r : Int32 × Dt} {E : EV} (hE : TG E (some (.int r.1)) (sh, r.2))  : ∀ (n : Nat) (l0 : Nat) (d : Dt), f_X12_joinsAll_14 N sh n l0 d = some r → Z E yX12_joinsAll cX12_joinsAll 8 (some .boolean) 5 (sh, d) 14 [(0, .ref l0)] [] := by
  intro n
  induction n with
  | zero => intro l0 d hf; cases hf
  | succ n ih => intro l0 d hf; exact zg_X12_joinsAll_14 hE ih hf
set_option maxRecDepth 20000 in
theorem zm_X12_joinsAll {N : Nat} {sh : Sh} {d : Dt} {l0 : Nat} {r : Int32 × Dt} (hf : f_X12_joinsAll N sh l0 d = some r) : isO sh l0 12 ∧ ∀ (l : Launch) (G : GG), Mt l G yX12_joinsAll cX12_joinsAll 8 (some .boolean) 5 [.ref l0] (sh, d) (some (.int r.1)) (sh, r.2) := by
  have hf0 := hf
  unfold f_X12_joinsAll at hf
  split at hf
  · rename_i hO
    refine ⟨hO, fun l G => mt_of (Or.inl (by decide)) (Nat.le_of_ble_eq_true rfl) Le.rf (fun E hE => ?_)⟩
    show Z E yX12_joinsAll cX12_joinsAll 8 (some .boolean) 5 (sh, d) 0 [(0, .ref l0)] []
    refine z_aload_n 0 dX12_joinsAll_0 rfl rfl ?_
    refine z_iconst 0 0 dX12_joinsAll_1 (by decide) ?_
    refine z_pI (ci := 12) (k := 19) (C := RX12) (T := TX12) (N := 32) rfl inlX12 (by decide) mw_48_17 (fun _ _ _ _ h9 => h9) tyX12 tyX12_ok nmX12 rfl hf (Or.inl (by decide)) rfl rfl rfl dX12_joinsAll_2  (fun d1 hf => ?_)
    refine z_aload_n 0 dX12_joinsAll_5 rfl rfl ?_
    refine z_iconst 0 0 dX12_joinsAll_6 (by decide) ?_
    refine z_aload_n 0 dX12_joinsAll_7 rfl rfl ?_
    refine z_gP (ci := 12) (k := 14) (C := RX12) (T := TX12) (N := 32) rfl inlX12 (by decide) mw_7_4 (fun _ _ _ _ h9 => h9) hf (by decide) rfl dX12_joinsAll_8  (fun v2 hf => ?_)
    obtain ⟨v3, ev3, hf⟩ := ob hf
    refine z_cVv (ci := 12) (T := TX12) (N := 32) (As := [.int (0 : Int32), .ref v2]) (rest := []) (zm_X12_follows ev3).2 (zm_X12_follows ev3).1 (by decide) rfl (Or.inl rfl) mw_49_17 mw_49_18 mw_49_19 mw_1_5 mw_49_20 yk_X12_follows (by decide) (by decide) rfl (Nat.le_of_ble_eq_true rfl) rfl dX12_joinsAll_11 ?_
    exact zb_X12_joinsAll_14 hE N _ _ hf
  · cases hf
set_option maxRecDepth 20000 in
theorem zm_X12_lessens {N : Nat} {sh : Sh} {d : Dt} {l0 : Nat} {l1 : Int32} {l2 : Int32} {l3 : Int32} {l4 : Int32} {r : Int32 × Dt} (hf : f_X12_lessens N sh l0 l1 l2 l3 l4 d = some r) : isO sh l0 12 ∧ ∀ (l : Launch) (G : GG), Mt l G yX12_lessens cX12_lessens 5 (some .boolean) 1 [.ref l0, .int l1, .int l2, .int l3, .int l4] (sh, d) (some (.int r.1)) (sh, r.2) := by
  have hf0 := hf
  unfold f_X12_lessens at hf
  split at hf
  · rename_i hO
    refine ⟨hO, fun l G => mt_of (Or.inl (by decide)) (Nat.le_of_ble_eq_true rfl) Le.rf (fun E hE => ?_)⟩
    show Z E yX12_lessens cX12_lessens 5 (some .boolean) 1 (sh, d) 0 [(0, .ref l0), (1, .int l1), (2, .int l2), (3, .int l3), (4, .int l4)] []
    refine z_aload_n 0 dX12_lessens_0 rfl rfl ?_
    refine z_gP (ci := 12) (k := 9) (C := RX12) (T := TX12) (N := 32) rfl inlX12 (by decide) mw_6_23 (fun _ _ _ _ h9 => h9) hf (by decide) rfl dX12_lessens_1  (fun v1 hf => ?_)
    refine z_bipush 60 60 dX12_lessens_4 (by decide) ?_
    refine z_iload_n 2 dX12_lessens_6 rfl rfl ?_
    refine z_imul dX12_lessens_7 ?_
    refine z_iload 4 dX12_lessens_8 rfl ?_
    refine z_iadd dX12_lessens_10 ?_
    refine z_aI hf dX12_lessens_11  (fun v2 hf => ?_)
    refine z_iload_n 3 dX12_lessens_12 rfl rfl ?_
    refine z_iadd dX12_lessens_13 ?_
    refine z_aload_n 0 dX12_lessens_14 rfl rfl ?_
    refine z_gP (ci := 12) (k := 9) (C := RX12) (T := TX12) (N := 32) rfl inlX12 (by decide) mw_6_23 (fun _ _ _ _ h9 => h9) hf (by decide) rfl dX12_lessens_15  (fun v3 hf => ?_)
    refine z_bipush 60 60 dX12_lessens_18 (by decide) ?_
    refine z_iload_n 1 dX12_lessens_20 rfl rfl ?_
    refine z_imul dX12_lessens_21 ?_
    refine z_iload 4 dX12_lessens_22 rfl ?_
    refine z_iadd dX12_lessens_24 ?_
    refine z_aI hf dX12_lessens_25  (fun v4 hf => ?_)
    refine z_icmp_ge 57 hf dX12_lessens_26 (by decide) (fun hf => ?_) (fun hf => ?_)
    · refine z_iconst 0 0 dX12_lessens_57 (by decide) ?_
      cases hf
      exact z_zreturn hE rfl (by decide) dX12_lessens_58
    · refine z_aload_n 0 dX12_lessens_29 rfl rfl ?_
      refine z_gP (ci := 12) (k := 9) (C := RX12) (T := TX12) (N := 32) rfl inlX12 (by decide) mw_6_23 (fun _ _ _ _ h9 => h9) hf (by decide) rfl dX12_lessens_30  (fun v5 hf => ?_)
      refine z_bipush 60 60 dX12_lessens_33 (by decide) ?_
      refine z_iload_n 1 dX12_lessens_35 rfl rfl ?_
      refine z_imul dX12_lessens_36 ?_
      refine z_iload 4 dX12_lessens_37 rfl ?_
      refine z_iadd dX12_lessens_39 ?_
      refine z_aload_n 0 dX12_lessens_40 rfl rfl ?_
      refine z_gP (ci := 12) (k := 9) (C := RX12) (T := TX12) (N := 32) rfl inlX12 (by decide) mw_6_23 (fun _ _ _ _ h9 => h9) hf (by decide) rfl dX12_lessens_41  (fun v6 hf => ?_)
      refine z_bipush 60 60 dX12_lessens_44 (by decide) ?_
      refine z_iload_n 2 dX12_lessens_46 rfl rfl ?_
      refine z_imul dX12_lessens_47 ?_
      refine z_iload 4 dX12_lessens_48 rfl ?_
      refine z_iadd dX12_lessens_50 ?_
      refine z_aI hf dX12_lessens_51  (fun v7 hf => ?_)
      refine z_iload_n 3 dX12_lessens_52 rfl rfl ?_
      refine z_iadd dX12_lessens_53 ?_
      refine z_sI hf dX12_lessens_54  (fun d8 hf => ?_)
      refine z_iconst 1 1 dX12_lessens_55 (by decide) ?_
      cases hf
      exact z_zreturn hE rfl (by decide) dX12_lessens_56
  · cases hf
set_option maxRecDepth 20000 in
theorem zb_X12_reckonTo_198 {N : Nat} {sh : Sh} {r : Dt} {E : EV} (hE : TG E none (sh, r))   {d : Dt} (hf : f_X12_reckonTo_198 N sh  d = some r) : Z E yX12_reckonTo cX12_reckonTo 7 none 3 (sh, d) 198 [] [] := by
  unfold f_X12_reckonTo_198 at hf
  cases hf
  exact z_return hE rfl dX12_reckonTo_198
set_option maxRecDepth 20000 in
theorem zb_X12_reckonTo_195 {N : Nat} {sh : Sh} {k42 : Nat → Int32 → Int32 → Dt → Option Dt} {r : Dt} {E : EV} (hE : TG E none (sh, r)) (hk42 : ∀ (l0 : Nat) (l1 : Int32) (l2 : Int32) (d : Dt), k42 l0 l1 l2 d = some r → Z E yX12_reckonTo cX12_reckonTo 7 none 3 (sh, d) 42 [(0, .ref l0), (1, .int l1), (2, .int l2)] []) {l0 : Nat} {l1 : Int32} {l2 : Int32} {d : Dt} (hf : f_X12_reckonTo_195 N sh k42 l0 l1 l2 d = some r) : Z E yX12_reckonTo cX12_reckonTo 7 none 3 (sh, d) 195 [(0, .ref l0), (1, .int l1), (2, .int l2)] [] := by
  unfold f_X12_reckonTo_195 at hf
  refine z_goto 42 dX12_reckonTo_195 (by decide) ?_
  exact hk42 _ _ _ _ hf
set_option maxRecDepth 20000 in
theorem zb_X12_reckonTo_189 {N : Nat} {sh : Sh} {k42 : Nat → Int32 → Int32 → Dt → Option Dt} {k50 : Nat → Int32 → Int32 → Int32 → Dt → Option Dt} {r : Dt} {E : EV} (hE : TG E none (sh, r)) (hk42 : ∀ (l0 : Nat) (l1 : Int32) (l2 : Int32) (d : Dt), k42 l0 l1 l2 d = some r → Z E yX12_reckonTo cX12_reckonTo 7 none 3 (sh, d) 42 [(0, .ref l0), (1, .int l1), (2, .int l2)] []) (hk50 : ∀ (l0 : Nat) (l1 : Int32) (l2 : Int32) (l3 : Int32) (d : Dt), k50 l0 l1 l2 l3 d = some r → Z E yX12_reckonTo cX12_reckonTo 7 none 3 (sh, d) 50 [(0, .ref l0), (1, .int l1), (2, .int l2), (3, .int l3)] []) {l0 : Nat} {l1 : Int32} {l2 : Int32} {l3 : Int32} {d : Dt} (hf : f_X12_reckonTo_189 N sh k42 k50 l0 l1 l2 l3 d = some r) : Z E yX12_reckonTo cX12_reckonTo 7 none 3 (sh, d) 189 [(0, .ref l0), (1, .int l1), (2, .int l2), (3, .int l3)] [] := by
  unfold f_X12_reckonTo_189 at hf
  refine z_iinc [(3, .int (l3 + 1)), (0, .ref l0), (1, .int l1), (2, .int l2)] 3 (l3 + 1) dX12_reckonTo_189 rfl rfl (by decide) rfl ?_
  refine z_goto 50 dX12_reckonTo_192 (by decide) ?_
  refine z_lv [(0, .ref l0), (1, .int l1), (2, .int l2), (3, .int (l3 + 1))] [1, 2, 3, 0] rfl ?_
  exact hk50 _ _ _ _ _ hf
set_option maxRecDepth 20000 in
theorem zb_X12_reckonTo_188 {N : Nat} {sh : Sh} {k42 : Nat → Int32 → Int32 → Dt → Option Dt} {k50 : Nat → Int32 → Int32 → Int32 → Dt → Option Dt} {r : Dt} {E : EV} (hE : TG E none (sh, r)) (hk42 : ∀ (l0 : Nat) (l1 : Int32) (l2 : Int32) (d : Dt), k42 l0 l1 l2 d = some r → Z E yX12_reckonTo cX12_reckonTo 7 none 3 (sh, d) 42 [(0, .ref l0), (1, .int l1), (2, .int l2)] []) (hk50 : ∀ (l0 : Nat) (l1 : Int32) (l2 : Int32) (l3 : Int32) (d : Dt), k50 l0 l1 l2 l3 d = some r → Z E yX12_reckonTo cX12_reckonTo 7 none 3 (sh, d) 50 [(0, .ref l0), (1, .int l1), (2, .int l2), (3, .int l3)] []) {l0 : Nat} {l1 : Int32} {l3 : Int32} {t0 : Int32} {d : Dt} (hf : f_X12_reckonTo_188 N sh k42 k50 l0 l1 l3 t0 d = some r) : Z E yX12_reckonTo cX12_reckonTo 7 none 3 (sh, d) 188 [(0, .ref l0), (1, .int l1), (3, .int l3)] [.int t0] := by
  unfold f_X12_reckonTo_188 at hf
  refine z_istore_n [(2, .int t0), (0, .ref l0), (1, .int l1), (3, .int l3)] dX12_reckonTo_188 rfl (by decide) rfl ?_
  refine z_lv [(0, .ref l0), (1, .int l1), (2, .int t0), (3, .int l3)] [1, 2, 0, 3] rfl ?_
  exact zb_X12_reckonTo_189 hE hk42 hk50 hf
set_option maxRecDepth 20000 in
theorem zb_X12_reckonTo_183 {N : Nat} {sh : Sh} {k42 : Nat → Int32 → Int32 → Dt → Option Dt} {k50 : Nat → Int32 → Int32 → Int32 → Dt → Option Dt} {r : Dt} {E : EV} (hE : TG E none (sh, r)) (hk42 : ∀ (l0 : Nat) (l1 : Int32) (l2 : Int32) (d : Dt), k42 l0 l1 l2 d = some r → Z E yX12_reckonTo cX12_reckonTo 7 none 3 (sh, d) 42 [(0, .ref l0), (1, .int l1), (2, .int l2)] []) (hk50 : ∀ (l0 : Nat) (l1 : Int32) (l2 : Int32) (l3 : Int32) (d : Dt), k50 l0 l1 l2 l3 d = some r → Z E yX12_reckonTo cX12_reckonTo 7 none 3 (sh, d) 50 [(0, .ref l0), (1, .int l1), (2, .int l2), (3, .int l3)] []) {l0 : Nat} {l1 : Int32} {l3 : Int32} {d : Dt} (hf : f_X12_reckonTo_183 N sh k42 k50 l0 l1 l3 d = some r) : Z E yX12_reckonTo cX12_reckonTo 7 none 3 (sh, d) 183 [(0, .ref l0), (1, .int l1), (3, .int l3)] [] := by
  unfold f_X12_reckonTo_183 at hf
  refine z_iconst 1 1 dX12_reckonTo_183 (by decide) ?_
  refine z_goto 188 dX12_reckonTo_184 (by decide) ?_
  exact zb_X12_reckonTo_188 hE hk42 hk50 hf
set_option maxRecDepth 20000 in
theorem zb_X12_reckonTo_167 {N : Nat} {sh : Sh} {k42 : Nat → Int32 → Int32 → Dt → Option Dt} {k50 : Nat → Int32 → Int32 → Int32 → Dt → Option Dt} {r : Dt} {E : EV} (hE : TG E none (sh, r)) (hk42 : ∀ (l0 : Nat) (l1 : Int32) (l2 : Int32) (d : Dt), k42 l0 l1 l2 d = some r → Z E yX12_reckonTo cX12_reckonTo 7 none 3 (sh, d) 42 [(0, .ref l0), (1, .int l1), (2, .int l2)] []) (hk50 : ∀ (l0 : Nat) (l1 : Int32) (l2 : Int32) (l3 : Int32) (d : Dt), k50 l0 l1 l2 l3 d = some r → Z E yX12_reckonTo cX12_reckonTo 7 none 3 (sh, d) 50 [(0, .ref l0), (1, .int l1), (2, .int l2), (3, .int l3)] []) {l0 : Nat} {l1 : Int32} {l2 : Int32} {l3 : Int32} {l5 : Int32} {t0 : Int32} {d : Dt} (hf : f_X12_reckonTo_167 N sh k42 k50 l0 l1 l2 l3 l5 t0 d = some r) : Z E yX12_reckonTo cX12_reckonTo 7 none 3 (sh, d) 167 [(0, .ref l0), (1, .int l1), (2, .int l2), (3, .int l3), (5, .int l5)] [.int t0] := by
  unfold f_X12_reckonTo_167 at hf
  refine z_istore [(6, .int t0), (0, .ref l0), (1, .int l1), (2, .int l2), (3, .int l3), (5, .int l5)] dX12_reckonTo_167 (by decide) rfl ?_
  refine z_iload_n 3 dX12_reckonTo_169 rfl rfl ?_
  refine z_if_ne 183 hf dX12_reckonTo_170 (by decide) (fun hf => ?_) (fun hf => ?_)
  · refine z_lv [(0, .ref l0), (1, .int l1), (3, .int l3)] [1, 2, 4] rfl ?_
    exact zb_X12_reckonTo_183 hE hk42 hk50 hf
  · refine z_iload 5 dX12_reckonTo_173 rfl ?_
    refine z_if_ne 183 hf dX12_reckonTo_175 (by decide) (fun hf => ?_) (fun hf => ?_)
    · refine z_lv [(0, .ref l0), (1, .int l1), (3, .int l3)] [1, 2, 4] rfl ?_
      exact zb_X12_reckonTo_183 hE hk42 hk50 hf
    · refine z_iload 0 dX12_reckonTo_178 rfl ?_
      refine z_if_eq 187 hf dX12_reckonTo_180 (by decide) (fun hf => ?_) (fun hf => ?_)
      · refine z_iconst 0 0 dX12_reckonTo_187 (by decide) ?_
        refine z_lv [(0, .ref l0), (1, .int l1), (3, .int l3)] [1, 2, 4] rfl ?_
        exact zb_X12_reckonTo_188 hE hk42 hk50 hf
      · refine z_lv [(0, .ref l0), (1, .int l1), (3, .int l3)] [1, 2, 4] rfl ?_
        exact zb_X12_reckonTo_183 hE hk42 hk50 hf
set_option maxRecDepth 20000 in
theorem zb_X12_reckonTo_166 {N : Nat} {sh : Sh} {k42 : Nat → Int32 → Int32 → Dt → Option Dt} {k50 : Nat → Int32 → Int32 → Int32 → Dt → Option Dt} {r : Dt} {E : EV} (hE : TG E none (sh, r)) (hk42 : ∀ (l0 : Nat) (l1 : Int32) (l2 : Int32) (d : Dt), k42 l0 l1 l2 d = some r → Z E yX12_reckonTo cX12_reckonTo 7 none 3 (sh, d) 42 [(0, .ref l0), (1, .int l1), (2, .int l2)] []) (hk50 : ∀ (l0 : Nat) (l1 : Int32) (l2 : Int32) (l3 : Int32) (d : Dt), k50 l0 l1 l2 l3 d = some r → Z E yX12_reckonTo cX12_reckonTo 7 none 3 (sh, d) 50 [(0, .ref l0), (1, .int l1), (2, .int l2), (3, .int l3)] []) {l0 : Nat} {l1 : Int32} {l2 : Int32} {l3 : Int32} {l5 : Int32} {d : Dt} (hf : f_X12_reckonTo_166 N sh k42 k50 l0 l1 l2 l3 l5 d = some r) : Z E yX12_reckonTo cX12_reckonTo 7 none 3 (sh, d) 166 [(0, .ref l0), (1, .int l1), (2, .int l2), (3, .int l3), (5, .int l5)] [] := by
  unfold f_X12_reckonTo_166 at hf
  refine z_iconst 0 0 dX12_reckonTo_166 (by decide) ?_
  exact zb_X12_reckonTo_167 hE hk42 hk50 hf
set_option maxRecDepth 20000 in
theorem zg_X12_reckonTo_50 {N : Nat} {sh : Sh} {k42 : Nat → Int32 → Int32 → Dt → Option Dt} {r : Dt} {k50 : Nat → Int32 → Int32 → Int32 → Dt → Option Dt} {E : EV} (hE : TG E none (sh, r)) (hk42 : ∀ (l0 : Nat) (l1 : Int32) (l2 : Int32) (d : Dt), k42 l0 l1 l2 d = some r → Z E yX12_reckonTo cX12_reckonTo 7 none 3 (sh, d) 42 [(0, .ref l0), (1, .int l1), (2, .int l2)] []) (hk50 : ∀ (l0 : Nat) (l1 : Int32) (l2 : Int32) (l3 : Int32) (d : Dt), k50 l0 l1 l2 l3 d = some r → Z E yX12_reckonTo cX12_reckonTo 7 none 3 (sh, d) 50 [(0, .ref l0), (1, .int l1), (2, .int l2), (3, .int l3)] []) {l0 : Nat} {l1 : Int32} {l2 : Int32} {l3 : Int32} {d : Dt} (hf : g_X12_reckonTo_50 N sh k42 k50 l0 l1 l2 l3 d = some r) : Z E yX12_reckonTo cX12_reckonTo 7 none 3 (sh, d) 50 [(0, .ref l0), (1, .int l1), (2, .int l2), (3, .int l3)] [] := by
  unfold g_X12_reckonTo_50 at hf
  refine z_iload_n 3 dX12_reckonTo_50 rfl rfl ?_
  refine z_aload_n 0 dX12_reckonTo_51 rfl rfl ?_
  refine z_gP (ci := 12) (k := 0) (C := RX12) (T := TX12) (N := 32) rfl inlX12 (by decide) mw_6_19 (fun _ _ _ _ h9 => h9) hf (by decide) rfl dX12_reckonTo_52  (fun v5 hf => ?_)
  refine z_iconst 1 1 dX12_reckonTo_55 (by decide) ?_
  refine z_aI hf dX12_reckonTo_56  (fun v6 hf => ?_)
  refine z_icmp_ge 195 hf dX12_reckonTo_57 (by decide) (fun hf => ?_) (fun hf => ?_)
  · refine z_lv [(0, .ref l0), (1, .int l1), (2, .int l2)] [0, 1, 2] rfl ?_
    exact zb_X12_reckonTo_195 hE hk42 hf
  · refine z_aload_n 0 dX12_reckonTo_60 rfl rfl ?_
    refine z_iload_n 3 dX12_reckonTo_61 rfl rfl ?_
    obtain ⟨v7, ev7, hf⟩ := ob hf
    refine z_cVi (ci := 12) (T := TX12) (N := 32) (As := [.int l3]) (rest := []) (zm_X12_isOpen ev7).2 (zm_X12_isOpen ev7).1 (by decide) rfl (Or.inl rfl) mw_18_4 mw_18_5 mw_18_6 mw_1_5 mw_18_7 yk_X12_isOpen (by decide) (by decide) rfl (Nat.le_of_ble_eq_true rfl) rfl dX12_reckonTo_62 ?_
    refine z_if_eq 189 hf dX12_reckonTo_65 (by decide) (fun hf => ?_) (fun hf => ?_)
    · exact zb_X12_reckonTo_189 hE hk42 hk50 hf
    · refine z_aload_n 0 dX12_reckonTo_68 rfl rfl ?_
      refine z_iload_n 3 dX12_reckonTo_69 rfl rfl ?_
      obtain ⟨v8, ev8, hf⟩ := ob hf
      refine z_cVi (ci := 12) (T := TX12) (N := 32) (As := [.int l3]) (rest := []) (zm_X12_st ev8).2 (zm_X12_st ev8).1 (by decide) rfl (Or.inl rfl) mw_13_10 mw_13_11 mw_13_12 mw_1_5 mw_13_13 yk_X12_st (by decide) (by decide) rfl (Nat.le_of_ble_eq_true rfl) rfl dX12_reckonTo_70 ?_
      refine z_istore [(4, .int v8), (0, .ref l0), (1, .int l1), (2, .int l2), (3, .int l3)] dX12_reckonTo_73 (by decide) rfl ?_
      refine z_aload_n 1 dX12_reckonTo_75 rfl rfl ?_
      refine z_aload_n 1 dX12_reckonTo_76 rfl rfl ?_
      refine z_gP (ci := 12) (k := 0) (C := RX12) (T := TX12) (N := 32) rfl inlX12 (by decide) mw_6_19 (fun _ _ _ _ h9 => h9) hf (by decide) rfl dX12_reckonTo_77  (fun v9 hf => ?_)
      refine z_iload 0 dX12_reckonTo_80 rfl ?_
      refine z_bipush 7 7 dX12_reckonTo_82 (by decide) ?_
      refine z_iadd dX12_reckonTo_84 ?_
      refine z_aI hf dX12_reckonTo_85  (fun v10 hf => ?_)
      refine z_aload_n 1 dX12_reckonTo_86 rfl rfl ?_
      refine z_gP (ci := 12) (k := 0) (C := RX12) (T := TX12) (N := 32) rfl inlX12 (by decide) mw_6_19 (fun _ _ _ _ h9 => h9) hf (by decide) rfl dX12_reckonTo_87  (fun v11 hf => ?_)
      refine z_iload 0 dX12_reckonTo_90 rfl ?_
      refine z_bipush 8 8 dX12_reckonTo_92 (by decide) ?_
      refine z_iadd dX12_reckonTo_94 ?_
      refine z_aI hf dX12_reckonTo_95  (fun v12 hf => ?_)
      refine z_aload_n 1 dX12_reckonTo_96 rfl rfl ?_
      refine z_gP (ci := 12) (k := 0) (C := RX12) (T := TX12) (N := 32) rfl inlX12 (by decide) mw_6_19 (fun _ _ _ _ h9 => h9) hf (by decide) rfl dX12_reckonTo_97  (fun v13 hf => ?_)
      refine z_iload 0 dX12_reckonTo_100 rfl ?_
      refine z_bipush 6 6 dX12_reckonTo_102 (by decide) ?_
      refine z_iadd dX12_reckonTo_104 ?_
      refine z_aI hf dX12_reckonTo_105  (fun v14 hf => ?_)
      refine z_iload_n 2 dX12_reckonTo_106 rfl rfl ?_
      obtain ⟨v15, ev15, hf⟩ := ob hf
      refine z_cVi (ci := 12) (T := TX12) (N := 32) (As := [.int v10, .int v12, .int v14, .int l1]) (rest := []) (zm_X12_lessens ev15).2 (zm_X12_lessens ev15).1 (by decide) rfl (Or.inl rfl) mw_18_8 mw_18_9 mw_18_10 mw_1_5 mw_18_11 yk_X12_lessens (by decide) (by decide) rfl (Nat.le_of_ble_eq_true rfl) rfl dX12_reckonTo_107 ?_
      refine z_istore [(5, .int v15.1), (4, .int v8), (0, .ref l0), (1, .int l1), (2, .int l2), (3, .int l3)] dX12_reckonTo_110 (by decide) rfl ?_
      refine z_aload_n 2 dX12_reckonTo_112 rfl rfl ?_
      refine z_gP (ci := 12) (k := 0) (C := RX12) (T := TX12) (N := 32) rfl inlX12 (by decide) mw_6_19 (fun _ _ _ _ h9 => h9) hf (by decide) rfl dX12_reckonTo_113  (fun v16 hf => ?_)
      refine z_iload 1 dX12_reckonTo_116 rfl ?_
      refine z_iconst 5 5 dX12_reckonTo_118 (by decide) ?_
      refine z_iadd dX12_reckonTo_119 ?_
      refine z_aI hf dX12_reckonTo_120  (fun v17 hf => ?_)
      refine z_if_ne 166 hf dX12_reckonTo_121 (by decide) (fun hf => ?_) (fun hf => ?_)
      · refine z_lv [(0, .ref l0), (1, .int l1), (2, .int l2), (3, .int l3), (5, .int v15.1)] [2, 3, 4, 5, 0] rfl ?_
        exact zb_X12_reckonTo_166 hE hk42 hk50 hf
      · refine z_aload_n 2 dX12_reckonTo_124 rfl rfl ?_
        refine z_aload_n 2 dX12_reckonTo_125 rfl rfl ?_
        refine z_gP (ci := 12) (k := 0) (C := RX12) (T := TX12) (N := 32) rfl inlX12 (by decide) mw_6_19 (fun _ _ _ _ h9 => h9) hf (by decide) rfl dX12_reckonTo_126  (fun v18 hf => ?_)
        refine z_iload 1 dX12_reckonTo_129 rfl ?_
        refine z_bipush 8 8 dX12_reckonTo_131 (by decide) ?_
        refine z_iadd dX12_reckonTo_133 ?_
        refine z_aI hf dX12_reckonTo_134  (fun v19 hf => ?_)
        refine z_aload_n 2 dX12_reckonTo_135 rfl rfl ?_
        refine z_gP (ci := 12) (k := 0) (C := RX12) (T := TX12) (N := 32) rfl inlX12 (by decide) mw_6_19 (fun _ _ _ _ h9 => h9) hf (by decide) rfl dX12_reckonTo_136  (fun v20 hf => ?_)
        refine z_iload 1 dX12_reckonTo_139 rfl ?_
        refine z_bipush 7 7 dX12_reckonTo_141 (by decide) ?_
        refine z_iadd dX12_reckonTo_143 ?_
        refine z_aI hf dX12_reckonTo_144  (fun v21 hf => ?_)
        refine z_aload_n 2 dX12_reckonTo_145 rfl rfl ?_
        refine z_gP (ci := 12) (k := 0) (C := RX12) (T := TX12) (N := 32) rfl inlX12 (by decide) mw_6_19 (fun _ _ _ _ h9 => h9) hf (by decide) rfl dX12_reckonTo_146  (fun v22 hf => ?_)
        refine z_iload 1 dX12_reckonTo_149 rfl ?_
        refine z_bipush 6 6 dX12_reckonTo_151 (by decide) ?_
        refine z_iadd dX12_reckonTo_153 ?_
        refine z_aI hf dX12_reckonTo_154  (fun v23 hf => ?_)
        refine z_iload_n 3 dX12_reckonTo_155 rfl rfl ?_
        obtain ⟨v24, ev24, hf⟩ := ob hf
        refine z_cVi (ci := 12) (T := TX12) (N := 32) (As := [.int v19, .int v21, .int v23, .int l1]) (rest := []) (zm_X12_lessens ev24).2 (zm_X12_lessens ev24).1 (by decide) rfl (Or.inl rfl) mw_18_8 mw_18_9 mw_18_10 mw_1_5 mw_18_11 yk_X12_lessens (by decide) (by decide) rfl (Nat.le_of_ble_eq_true rfl) rfl dX12_reckonTo_156 ?_
        refine z_if_eq 166 hf dX12_reckonTo_159 (by decide) (fun hf => ?_) (fun hf => ?_)
        · refine z_lv [(0, .ref l0), (1, .int l1), (2, .int l2), (3, .int l3), (5, .int v15.1)] [2, 3, 4, 5, 0] rfl ?_
          exact zb_X12_reckonTo_166 hE hk42 hk50 hf
        · refine z_iconst 1 1 dX12_reckonTo_162 (by decide) ?_
          refine z_goto 167 dX12_reckonTo_163 (by decide) ?_
          refine z_lv [(0, .ref l0), (1, .int l1), (2, .int l2), (3, .int l3), (5, .int v15.1)] [2, 3, 4, 5, 0] rfl ?_
          exact zb_X12_reckonTo_167 hE hk42 hk50 hf
set_option maxRecDepth 20000 in
theorem zb_X12_reckonTo_50 {N : Nat} {sh : Sh} {k42 : Nat → Int32 → Int32 → Dt → Option Dt} {r : Dt} {E : EV} (hE : TG E none (sh, r)) (hk42 : ∀ (l0 : Nat) (l1 : Int32) (l2 : Int32) (d : Dt), k42 l0 l1 l2 d = some r → Z E yX12_reckonTo cX12_reckonTo 7 none 3 (sh, d) 42 [(0, .ref l0), (1, .int l1), (2, .int l2)] []) : ∀ (n : Nat) (l0 : Nat) (l1 : Int32) (l2 : Int32) (l3 : Int32) (d : Dt), f_X12_reckonTo_50 N sh k42 n l0 l1 l2 l3 d = some r → Z E yX12_reckonTo cX12_reckonTo 7 none 3 (sh, d) 50 [(0, .ref l0), (1, .int l1), (2, .int l2), (3, .int l3)] [] := by
  intro n
  induction n with
  | zero => intro l0 l1 l2 l3 d hf; cases hf
  | succ n ih => intro l0 l1 l2 l3 d hf; exact zg_X12_reckonTo_50 hE hk42 ih hf
set_option maxRecDepth 20000 in
theorem zg_X12_reckonTo_42 {N : Nat} {sh : Sh} {r : Dt} {k42 : Nat → Int32 → Int32 → Dt → Option Dt} {E : EV} (hE : TG E none (sh, r))  (hk42 : ∀ (l0 : Nat) (l1 : Int32) (l2 : Int32) (d : Dt), k42 l0 l1 l2 d = some r → Z E yX12_reckonTo cX12_reckonTo 7 none 3 (sh, d) 42 [(0, .ref l0), (1, .int l1), (2, .int l2)] []) {l0 : Nat} {l1 : Int32} {l2 : Int32} {d : Dt} (hf : g_X12_reckonTo_42 N sh k42 l0 l1 l2 d = some r) : Z E yX12_reckonTo cX12_reckonTo 7 none 3 (sh, d) 42 [(0, .ref l0), (1, .int l1), (2, .int l2)] [] := by
  unfold g_X12_reckonTo_42 at hf
  refine z_iload_n 2 dX12_reckonTo_42 rfl rfl ?_
  refine z_if_eq 198 hf dX12_reckonTo_43 (by decide) (fun hf => ?_) (fun hf => ?_)
  · refine z_lv [] [] rfl ?_
    exact zb_X12_reckonTo_198 hE hf
  · refine z_iconst 0 0 dX12_reckonTo_46 (by decide) ?_
    refine z_istore_n [(2, .int (0 : Int32)), (0, .ref l0), (1, .int l1)] dX12_reckonTo_47 rfl (by decide) rfl ?_
    refine z_iconst 0 0 dX12_reckonTo_48 (by decide) ?_
    refine z_istore_n [(3, .int (0 : Int32)), (2, .int (0 : Int32)), (0, .ref l0), (1, .int l1)] dX12_reckonTo_49 rfl (by decide) rfl ?_
    refine z_lv [(0, .ref l0), (1, .int l1), (2, .int (0 : Int32)), (3, .int (0 : Int32))] [2, 3, 1, 0] rfl ?_
    exact zb_X12_reckonTo_50 hE hk42 N _ _ _ _ _ hf
set_option maxRecDepth 20000 in
theorem zb_X12_reckonTo_42 {N : Nat} {sh : Sh} {r : Dt} {E : EV} (hE : TG E none (sh, r))  : ∀ (n : Nat) (l0 : Nat) (l1 : Int32) (l2 : Int32) (d : Dt), f_X12_reckonTo_42 N sh n l0 l1 l2 d = some r → Z E yX12_reckonTo cX12_reckonTo 7 none 3 (sh, d) 42 [(0, .ref l0), (1, .int l1), (2, .int l2)] [] := by
  intro n
  induction n with
  | zero => intro l0 l1 l2 d hf; cases hf
  | succ n ih => intro l0 l1 l2 d hf; exact zg_X12_reckonTo_42 hE ih hf
set_option maxRecDepth 20000 in
theorem zb_X12_reckonTo_40 {N : Nat} {sh : Sh} {r : Dt} {E : EV} (hE : TG E none (sh, r))  {l0 : Nat} {l1 : Int32} {d : Dt} (hf : f_X12_reckonTo_40 N sh l0 l1 d = some r) : Z E yX12_reckonTo cX12_reckonTo 7 none 3 (sh, d) 40 [(0, .ref l0), (1, .int l1)] [] := by
  unfold f_X12_reckonTo_40 at hf
  refine z_iconst 1 1 dX12_reckonTo_40 (by decide) ?_
  refine z_istore_n [(2, .int (1 : Int32)), (0, .ref l0), (1, .int l1)] dX12_reckonTo_41 rfl (by decide) rfl ?_
  refine z_lv [(0, .ref l0), (1, .int l1), (2, .int (1 : Int32))] [1, 2, 0] rfl ?_
  exact zb_X12_reckonTo_42 hE N _ _ _ _ hf
set_option maxRecDepth 20000 in
theorem zb_X12_reckonTo_33 {N : Nat} {sh : Sh} {k2 : Nat → Int32 → Int32 → Dt → Option Dt} {r : Dt} {E : EV} (hE : TG E none (sh, r)) (hk2 : ∀ (l0 : Nat) (l1 : Int32) (l2 : Int32) (d : Dt), k2 l0 l1 l2 d = some r → Z E yX12_reckonTo cX12_reckonTo 7 none 3 (sh, d) 2 [(0, .ref l0), (1, .int l1), (2, .int l2)] []) {l0 : Nat} {l1 : Int32} {l2 : Int32} {t0 : Nat} {t1 : Int32} {t2 : Int32} {d : Dt} (hf : f_X12_reckonTo_33 N sh k2 l0 l1 l2 t0 t1 t2 d = some r) : Z E yX12_reckonTo cX12_reckonTo 7 none 3 (sh, d) 33 [(0, .ref l0), (1, .int l1), (2, .int l2)] [.int t2, .int t1, .ref t0] := by
  unfold f_X12_reckonTo_33 at hf
  refine z_sI hf dX12_reckonTo_33  (fun d4 hf => ?_)
  refine z_iinc [(2, .int (l2 + 1)), (0, .ref l0), (1, .int l1)] 2 (l2 + 1) dX12_reckonTo_34 rfl rfl (by decide) rfl ?_
  refine z_goto 2 dX12_reckonTo_37 (by decide) ?_
  refine z_lv [(0, .ref l0), (1, .int l1), (2, .int (l2 + 1))] [1, 2, 0] rfl ?_
  exact hk2 _ _ _ _ hf
set_option maxRecDepth 20000 in
theorem zg_X12_reckonTo_2 {N : Nat} {sh : Sh} {r : Dt} {k2 : Nat → Int32 → Int32 → Dt → Option Dt} {E : EV} (hE : TG E none (sh, r))  (hk2 : ∀ (l0 : Nat) (l1 : Int32) (l2 : Int32) (d : Dt), k2 l0 l1 l2 d = some r → Z E yX12_reckonTo cX12_reckonTo 7 none 3 (sh, d) 2 [(0, .ref l0), (1, .int l1), (2, .int l2)] []) {l0 : Nat} {l1 : Int32} {l2 : Int32} {d : Dt} (hf : g_X12_reckonTo_2 N sh k2 l0 l1 l2 d = some r) : Z E yX12_reckonTo cX12_reckonTo 7 none 3 (sh, d) 2 [(0, .ref l0), (1, .int l1), (2, .int l2)] [] := by
  unfold g_X12_reckonTo_2 at hf
  refine z_iload_n 2 dX12_reckonTo_2 rfl rfl ?_
  refine z_aload_n 0 dX12_reckonTo_3 rfl rfl ?_
  refine z_gP (ci := 12) (k := 0) (C := RX12) (T := TX12) (N := 32) rfl inlX12 (by decide) mw_6_19 (fun _ _ _ _ h9 => h9) hf (by decide) rfl dX12_reckonTo_4  (fun v1 hf => ?_)
  refine z_iconst 0 0 dX12_reckonTo_7 (by decide) ?_
  refine z_aI hf dX12_reckonTo_8  (fun v2 hf => ?_)
  refine z_icmp_ge 40 hf dX12_reckonTo_9 (by decide) (fun hf => ?_) (fun hf => ?_)
  · refine z_lv [(0, .ref l0), (1, .int l1)] [0, 1] rfl ?_
    exact zb_X12_reckonTo_40 hE hf
  · refine z_aload_n 0 dX12_reckonTo_12 rfl rfl ?_
    refine z_gP (ci := 12) (k := 9) (C := RX12) (T := TX12) (N := 32) rfl inlX12 (by decide) mw_6_23 (fun _ _ _ _ h9 => h9) hf (by decide) rfl dX12_reckonTo_13  (fun v3 hf => ?_)
    refine z_bipush 60 60 dX12_reckonTo_16 (by decide) ?_
    refine z_iload_n 2 dX12_reckonTo_18 rfl rfl ?_
    refine z_imul dX12_reckonTo_19 ?_
    refine z_iload_n 1 dX12_reckonTo_20 rfl rfl ?_
    refine z_iadd dX12_reckonTo_21 ?_
    refine z_iload_n 2 dX12_reckonTo_22 rfl rfl ?_
    refine z_iload_n 1 dX12_reckonTo_23 rfl rfl ?_
    refine z_icmp_ne 31 hf dX12_reckonTo_24 (by decide) (fun hf => ?_) (fun hf => ?_)
    · refine z_ldc mw_17_19 dX12_reckonTo_31 ?_
      exact zb_X12_reckonTo_33 hE hk2 hf
    · refine z_iconst 0 0 dX12_reckonTo_27 (by decide) ?_
      refine z_goto 33 dX12_reckonTo_28 (by decide) ?_
      exact zb_X12_reckonTo_33 hE hk2 hf
set_option maxRecDepth 20000 in
theorem zb_X12_reckonTo_2 {N : Nat} {sh : Sh} {r : Dt} {E : EV} (hE : TG E none (sh, r))  : ∀ (n : Nat) (l0 : Nat) (l1 : Int32) (l2 : Int32) (d : Dt), f_X12_reckonTo_2 N sh n l0 l1 l2 d = some r → Z E yX12_reckonTo cX12_reckonTo 7 none 3 (sh, d) 2 [(0, .ref l0), (1, .int l1), (2, .int l2)] [] := by
  intro n
  induction n with
  | zero => intro l0 l1 l2 d hf; cases hf
  | succ n ih => intro l0 l1 l2 d hf; exact zg_X12_reckonTo_2 hE ih hf
set_option maxRecDepth 20000 in
theorem zm_X12_reckonTo {N : Nat} {sh : Sh} {d : Dt} {l0 : Nat} {l1 : Int32} {r : Dt} (hf : f_X12_reckonTo N sh l0 l1 d = some r) : isO sh l0 12 ∧ ∀ (l : Launch) (G : GG), Mt l G yX12_reckonTo cX12_reckonTo 7 none 3 [.ref l0, .int l1] (sh, d) none (sh, r) := by
  have hf0 := hf
  unfold f_X12_reckonTo at hf
  split at hf
  · rename_i hO
    refine ⟨hO, fun l G => mt_of (Or.inl (by decide)) (Nat.le_of_ble_eq_true rfl) Le.rf (fun E hE => ?_)⟩
    show Z E yX12_reckonTo cX12_reckonTo 7 none 3 (sh, d) 0 [(0, .ref l0), (1, .int l1)] []
    refine z_iconst 0 0 dX12_reckonTo_0 (by decide) ?_
    refine z_istore_n [(2, .int (0 : Int32)), (0, .ref l0), (1, .int l1)] dX12_reckonTo_1 rfl (by decide) rfl ?_
    refine z_lv [(0, .ref l0), (1, .int l1), (2, .int (0 : Int32))] [1, 2, 0] rfl ?_
    exact zb_X12_reckonTo_2 hE N _ _ _ _ hf
  · cases hf
set_option maxRecDepth 20000 in
theorem zb_X12_reckon_35 {N : Nat} {sh : Sh} {r : Dt} {E : EV} (hE : TG E none (sh, r))   {d : Dt} (hf : f_X12_reckon_35 N sh  d = some r) : Z E yX12_reckon cX12_reckon 2 none 4 (sh, d) 35 [] [] := by
  unfold f_X12_reckon_35 at hf
  cases hf
  exact z_return hE rfl dX12_reckon_35
set_option maxRecDepth 20000 in
theorem zb_X12_reckon_30 {N : Nat} {sh : Sh} {r : Dt} {E : EV} (hE : TG E none (sh, r))  {l0 : Nat} {d : Dt} (hf : f_X12_reckon_30 N sh l0 d = some r) : Z E yX12_reckon cX12_reckon 2 none 4 (sh, d) 30 [(0, .ref l0)] [] := by
  unfold f_X12_reckon_30 at hf
  refine z_aload_n 0 dX12_reckon_30 rfl rfl ?_
  refine z_iconst 1 1 dX12_reckon_31 (by decide) ?_
  refine z_pI (ci := 12) (k := 10) (C := RX12) (T := TX12) (N := 32) rfl inlX12 (by decide) mw_11_10 (fun _ _ _ _ h9 => h9) tyX12 tyX12_ok nmX12 rfl hf (Or.inl (by decide)) rfl rfl rfl dX12_reckon_32  (fun d5 hf => ?_)
  refine z_lv [] [] rfl ?_
  exact zb_X12_reckon_35 hE hf
set_option maxRecDepth 20000 in
theorem zg_X12_reckon_9 {N : Nat} {sh : Sh} {r : Dt} {k9 : Nat → Int32 → Dt → Option Dt} {E : EV} (hE : TG E none (sh, r))  (hk9 : ∀ (l0 : Nat) (l1 : Int32) (d : Dt), k9 l0 l1 d = some r → Z E yX12_reckon cX12_reckon 2 none 4 (sh, d) 9 [(0, .ref l0), (1, .int l1)] []) {l0 : Nat} {l1 : Int32} {d : Dt} (hf : g_X12_reckon_9 N sh k9 l0 l1 d = some r) : Z E yX12_reckon cX12_reckon 2 none 4 (sh, d) 9 [(0, .ref l0), (1, .int l1)] [] := by
  unfold g_X12_reckon_9 at hf
  refine z_iload_n 1 dX12_reckon_9 rfl rfl ?_
  refine z_aload_n 0 dX12_reckon_10 rfl rfl ?_
  refine z_gP (ci := 12) (k := 0) (C := RX12) (T := TX12) (N := 32) rfl inlX12 (by decide) mw_6_19 (fun _ _ _ _ h9 => h9) hf (by decide) rfl dX12_reckon_11  (fun v2 hf => ?_)
  refine z_iconst 0 0 dX12_reckon_14 (by decide) ?_
  refine z_aI hf dX12_reckon_15  (fun v3 hf => ?_)
  refine z_icmp_ge 30 hf dX12_reckon_16 (by decide) (fun hf => ?_) (fun hf => ?_)
  · refine z_lv [(0, .ref l0)] [0] rfl ?_
    exact zb_X12_reckon_30 hE hf
  · refine z_aload_n 0 dX12_reckon_19 rfl rfl ?_
    refine z_iload_n 1 dX12_reckon_20 rfl rfl ?_
    obtain ⟨v4, ev4, hf⟩ := ob hf
    refine z_cVv (ci := 12) (T := TX12) (N := 32) (As := [.int l1]) (rest := []) (zm_X12_reckonTo ev4).2 (zm_X12_reckonTo ev4).1 (by decide) rfl (Or.inl rfl) mw_18_0 mw_18_1 mw_18_2 mw_1_5 mw_18_3 yk_X12_reckonTo (by decide) (by decide) rfl (Nat.le_of_ble_eq_true rfl) rfl dX12_reckon_21 ?_
    refine z_iinc [(1, .int (l1 + 1)), (0, .ref l0)] 1 (l1 + 1) dX12_reckon_24 rfl rfl (by decide) rfl ?_
    refine z_goto 9 dX12_reckon_27 (by decide) ?_
    refine z_lv [(0, .ref l0), (1, .int (l1 + 1))] [1, 0] rfl ?_
    exact hk9 _ _ _ hf
set_option maxRecDepth 20000 in
theorem zb_X12_reckon_9 {N : Nat} {sh : Sh} {r : Dt} {E : EV} (hE : TG E none (sh, r))  : ∀ (n : Nat) (l0 : Nat) (l1 : Int32) (d : Dt), f_X12_reckon_9 N sh n l0 l1 d = some r → Z E yX12_reckon cX12_reckon 2 none 4 (sh, d) 9 [(0, .ref l0), (1, .int l1)] [] := by
  intro n
  induction n with
  | zero => intro l0 l1 d hf; cases hf
  | succ n ih => intro l0 l1 d hf; exact zg_X12_reckon_9 hE ih hf
set_option maxRecDepth 20000 in
theorem zm_X12_reckon {N : Nat} {sh : Sh} {d : Dt} {l0 : Nat} {r : Dt} (hf : f_X12_reckon N sh l0 d = some r) : isO sh l0 12 ∧ ∀ (l : Launch) (G : GG), Mt l G yX12_reckon cX12_reckon 2 none 4 [.ref l0] (sh, d) none (sh, r) := by
  have hf0 := hf
  unfold f_X12_reckon at hf
  split at hf
  · rename_i hO
    refine ⟨hO, fun l G => mt_of (Or.inl (by decide)) (Nat.le_of_ble_eq_true rfl) Le.rf (fun E hE => ?_)⟩
    show Z E yX12_reckon cX12_reckon 2 none 4 (sh, d) 0 [(0, .ref l0)] []
    refine z_aload_n 0 dX12_reckon_0 rfl rfl ?_
    refine z_gI (ci := 12) (k := 10) (C := RX12) (T := TX12) (N := 32) rfl inlX12 (by decide) mw_11_10 (fun _ _ _ _ h9 => h9) hf (by decide) rfl dX12_reckon_1  (fun v1 hf => ?_)
    refine z_if_ne 35 hf dX12_reckon_4 (by decide) (fun hf => ?_) (fun hf => ?_)
    · refine z_lv [] [] rfl ?_
      exact zb_X12_reckon_35 hE hf
    · refine z_iconst 0 0 dX12_reckon_7 (by decide) ?_
      refine z_istore_n [(1, .int (0 : Int32)), (0, .ref l0)] dX12_reckon_8 rfl (by decide) rfl ?_
      refine z_lv [(0, .ref l0), (1, .int (0 : Int32))] [1, 0] rfl ?_
      exact zb_X12_reckon_9 hE N _ _ _ hf
  · cases hf
set_option maxRecDepth 20000 in
theorem zb_X12_least_40 {N : Nat} {sh : Sh} {r : Int32 × Dt} {E : EV} (hE : TG E (some (.int r.1)) (sh, r.2))  {l0 : Nat} {d : Dt} (hf : f_X12_least_40 N sh l0 d = some r) : Z E yX12_least cX12_least 2 (some .int) 5 (sh, d) 40 [(0, .ref l0)] [] := by
  unfold f_X12_least_40 at hf
  refine z_aload_n 0 dX12_least_40 rfl rfl ?_
  refine z_bipush (-2) (-2) dX12_least_41 (by decide) ?_
  obtain ⟨v15, ev15, hf⟩ := ob hf
  refine z_cVi (ci := 12) (T := TX12) (N := 32) (As := [.int (-2 : Int32)]) (rest := []) (zm_X12_refuses ev15).2 (zm_X12_refuses ev15).1 (by decide) rfl (Or.inl rfl) mw_11_14 mw_11_15 mw_11_16 mw_1_5 mw_11_17 yk_X12_refuses (by decide) (by decide) rfl (Nat.le_of_ble_eq_true rfl) rfl dX12_least_43 ?_
  cases hf
  exact z_ireturn hE rfl dX12_least_46
set_option maxRecDepth 20000 in
theorem zb_X12_least_86 {N : Nat} {sh : Sh} {r : Int32 × Dt} {E : EV} (hE : TG E (some (.int r.1)) (sh, r.2))  {t0 : Int32} {d : Dt} (hf : f_X12_least_86 N sh t0 d = some r) : Z E yX12_least cX12_least 2 (some .int) 5 (sh, d) 86 [] [.int t0] := by
  unfold f_X12_least_86 at hf
  cases hf
  exact z_ireturn hE rfl dX12_least_86
set_option maxRecDepth 20000 in
theorem zm_X12_least {N : Nat} {sh : Sh} {d : Dt} {l0 : Nat} {l1 : Int32} {r : Int32 × Dt} (hf : f_X12_least N sh l0 l1 d = some r) : isO sh l0 12 ∧ ∀ (l : Launch) (G : GG), Mt l G yX12_least cX12_least 2 (some .int) 5 [.ref l0, .int l1] (sh, d) (some (.int r.1)) (sh, r.2) := by
  have hf0 := hf
  unfold f_X12_least at hf
  split at hf
  · rename_i hO
    refine ⟨hO, fun l G => mt_of (Or.inl (by decide)) (Nat.le_of_ble_eq_true rfl) Le.rf (fun E hE => ?_)⟩
    show Z E yX12_least cX12_least 2 (some .int) 5 (sh, d) 0 [(0, .ref l0), (1, .int l1)] []
    refine z_aload_n 0 dX12_least_0 rfl rfl ?_
    obtain ⟨v1, ev1, hf⟩ := ob hf
    refine z_cVv (ci := 12) (T := TX12) (N := 32) (As := []) (rest := []) (zm_X12_beginTimes ev1).2 (zm_X12_beginTimes ev1).1 (by decide) rfl (Or.inl rfl) mw_40_9 mw_40_10 mw_40_11 mw_1_5 mw_40_12 yk_X12_beginTimes (by decide) (by decide) rfl (Nat.le_of_ble_eq_true rfl) rfl dX12_least_1 ?_
    refine z_aload_n 0 dX12_least_4 rfl rfl ?_
    obtain ⟨v2, ev2, hf⟩ := ob hf
    refine z_cVv (ci := 12) (T := TX12) (N := 32) (As := []) (rest := []) (zm_X12_findOdd ev2).2 (zm_X12_findOdd ev2).1 (by decide) rfl (Or.inl rfl) mw_40_17 mw_40_18 mw_40_19 mw_1_5 mw_40_20 yk_X12_findOdd (by decide) (by decide) rfl (Nat.le_of_ble_eq_true rfl) rfl dX12_least_5 ?_
    refine z_aload_n 0 dX12_least_8 rfl rfl ?_
    refine z_gI (ci := 12) (k := 16) (C := RX12) (T := TX12) (N := 32) rfl inlX12 (by decide) mw_40_8 (fun _ _ _ _ h9 => h9) hf (by decide) rfl dX12_least_9  (fun v3 hf => ?_)
    refine z_bipush 14 14 dX12_least_12 (by decide) ?_
    refine z_icmp_gt 40 hf dX12_least_14 (by decide) (fun hf => ?_) (fun hf => ?_)
    · refine z_lv [(0, .ref l0)] [0] rfl ?_
      exact zb_X12_least_40 hE hf
    · refine z_iload_n 1 dX12_least_17 rfl rfl ?_
      refine z_iconst 0 0 dX12_least_18 (by decide) ?_
      refine z_iconst 1 1 dX12_least_19 (by decide) ?_
      refine z_aload_n 0 dX12_least_20 rfl rfl ?_
      refine z_gI (ci := 12) (k := 16) (C := RX12) (T := TX12) (N := 32) rfl inlX12 (by decide) mw_40_8 (fun _ _ _ _ h9 => h9) hf (by decide) rfl dX12_least_21  (fun v4 hf => ?_)
      refine z_ishl dX12_least_24 ?_
      refine z_iconst 1 1 dX12_least_25 (by decide) ?_
      refine z_isub dX12_least_26 ?_
      obtain ⟨v5, ev5, hf⟩ := ob hf
      refine z_cTi (As := [.int l1, .int (0 : Int32), .int (((1 : Int32) <<< (v4 &&& 31)) - (1 : Int32))]) (rest := []) (zm_X12_in ev5) (Or.inl rfl) mw_11_11 mw_11_12 mw_1_5 mw_11_13 yk_X12_in (by decide) (by decide) rfl (Nat.le_of_ble_eq_true rfl) rfl dX12_least_27 ?_
      refine z_if_eq 40 hf dX12_least_30 (by decide) (fun hf => ?_) (fun hf => ?_)
      · refine z_lv [(0, .ref l0)] [0] rfl ?_
        exact zb_X12_least_40 hE hf
      · refine z_aload_n 0 dX12_least_33 rfl rfl ?_
        obtain ⟨v6, ev6, hf⟩ := ob hf
        refine z_cVi (ci := 12) (T := TX12) (N := 32) (As := []) (rest := []) (zm_X12_isOneWay ev6).2 (zm_X12_isOneWay ev6).1 (by decide) rfl (Or.inl rfl) mw_42_8 mw_42_9 mw_42_10 mw_1_5 mw_42_11 yk_X12_isOneWay (by decide) (by decide) rfl (Nat.le_of_ble_eq_true rfl) rfl dX12_least_34 ?_
        refine z_if_eq 47 hf dX12_least_37 (by decide) (fun hf => ?_) (fun hf => ?_)
        · refine z_aload_n 0 dX12_least_47 rfl rfl ?_
          obtain ⟨v7, ev7, hf⟩ := ob hf
          refine z_cVv (ci := 12) (T := TX12) (N := 32) (As := []) (rest := []) (zm_X12_reckon ev7).2 (zm_X12_reckon ev7).1 (by decide) rfl (Or.inl rfl) mw_17_20 mw_17_21 mw_17_22 mw_1_5 mw_17_23 yk_X12_reckon (by decide) (by decide) rfl (Nat.le_of_ble_eq_true rfl) rfl dX12_least_48 ?_
          refine z_aload_n 0 dX12_least_51 rfl rfl ?_
          refine z_iload_n 1 dX12_least_52 rfl rfl ?_
          obtain ⟨v8, ev8, hf⟩ := ob hf
          refine z_cVv (ci := 12) (T := TX12) (N := 32) (As := [.int l1]) (rest := []) (zm_X12_findLeast ev8).2 (zm_X12_findLeast ev8).1 (by decide) rfl (Or.inl rfl) mw_42_12 mw_42_13 mw_42_14 mw_1_5 mw_42_15 yk_X12_findLeast (by decide) (by decide) rfl (Nat.le_of_ble_eq_true rfl) rfl dX12_least_53 ?_
          refine z_aload_n 0 dX12_least_56 rfl rfl ?_
          refine z_gP (ci := 12) (k := 18) (C := RX12) (T := TX12) (N := 32) rfl inlX12 (by decide) mw_7_7 (fun _ _ _ _ h9 => h9) hf (by decide) rfl dX12_least_57  (fun v9 hf => ?_)
          refine z_iload_n 1 dX12_least_60 rfl rfl ?_
          refine z_aI hf dX12_least_61  (fun v10 hf => ?_)
          refine z_ldc mw_17_19 dX12_least_62 ?_
          refine z_icmp_lt 76 hf dX12_least_64 (by decide) (fun hf => ?_) (fun hf => ?_)
          · refine z_aload_n 0 dX12_least_76 rfl rfl ?_
            refine z_aload_n 0 dX12_least_77 rfl rfl ?_
            refine z_gP (ci := 12) (k := 18) (C := RX12) (T := TX12) (N := 32) rfl inlX12 (by decide) mw_7_7 (fun _ _ _ _ h9 => h9) hf (by decide) rfl dX12_least_78  (fun v11 hf => ?_)
            refine z_iload_n 1 dX12_least_81 rfl rfl ?_
            refine z_aI hf dX12_least_82  (fun v12 hf => ?_)
            obtain ⟨v13, ev13, hf⟩ := ob hf
            refine z_cVi (ci := 12) (T := TX12) (N := 32) (As := [.int v12]) (rest := []) (zm_X12_says ev13).2 (zm_X12_says ev13).1 (by decide) rfl (Or.inl rfl) mw_12_4 mw_12_5 mw_12_6 mw_1_5 mw_12_7 yk_X12_says (by decide) (by decide) rfl (Nat.le_of_ble_eq_true rfl) rfl dX12_least_83 ?_
            refine z_lv [] [] rfl ?_
            exact zb_X12_least_86 hE hf
          · refine z_aload_n 0 dX12_least_67 rfl rfl ?_
            refine z_bipush (-8) (-8) dX12_least_68 (by decide) ?_
            obtain ⟨v14, ev14, hf⟩ := ob hf
            refine z_cVi (ci := 12) (T := TX12) (N := 32) (As := [.int (-8 : Int32)]) (rest := []) (zm_X12_refuses ev14).2 (zm_X12_refuses ev14).1 (by decide) rfl (Or.inl rfl) mw_11_14 mw_11_15 mw_11_16 mw_1_5 mw_11_17 yk_X12_refuses (by decide) (by decide) rfl (Nat.le_of_ble_eq_true rfl) rfl dX12_least_70 ?_
            refine z_goto 86 dX12_least_73 (by decide) ?_
            refine z_lv [] [] rfl ?_
            exact zb_X12_least_86 hE hf
        · refine z_lv [(0, .ref l0)] [0] rfl ?_
          exact zb_X12_least_40 hE hf
  · cases hf
set_option maxRecDepth 20000 in
theorem zb_X12_losesPart_27 {N : Nat} {sh : Sh} {r : Dt} {E : EV} (hE : TG E none (sh, r))   {d : Dt} (hf : f_X12_losesPart_27 N sh  d = some r) : Z E yX12_losesPart cX12_losesPart 3 none 2 (sh, d) 27 [] [] := by
  unfold f_X12_losesPart_27 at hf
  cases hf
  exact z_return hE rfl dX12_losesPart_27
set_option maxRecDepth 20000 in
theorem zg_X12_losesPart_2 {N : Nat} {sh : Sh} {r : Dt} {k2 : Nat → Int32 → Int32 → Dt → Option Dt} {E : EV} (hE : TG E none (sh, r))  (hk2 : ∀ (l0 : Nat) (l1 : Int32) (l2 : Int32) (d : Dt), k2 l0 l1 l2 d = some r → Z E yX12_losesPart cX12_losesPart 3 none 2 (sh, d) 2 [(0, .ref l0), (1, .int l1), (2, .int l2)] []) {l0 : Nat} {l1 : Int32} {l2 : Int32} {d : Dt} (hf : g_X12_losesPart_2 N sh k2 l0 l1 l2 d = some r) : Z E yX12_losesPart cX12_losesPart 3 none 2 (sh, d) 2 [(0, .ref l0), (1, .int l1), (2, .int l2)] [] := by
  unfold g_X12_losesPart_2 at hf
  refine z_iload_n 2 dX12_losesPart_2 rfl rfl ?_
  refine z_bipush 13 13 dX12_losesPart_3 (by decide) ?_
  refine z_icmp_ge 27 hf dX12_losesPart_5 (by decide) (fun hf => ?_) (fun hf => ?_)
  · refine z_lv [] [] rfl ?_
    exact zb_X12_losesPart_27 hE hf
  · refine z_aload_n 0 dX12_losesPart_8 rfl rfl ?_
    refine z_gP (ci := 12) (k := 0) (C := RX12) (T := TX12) (N := 32) rfl inlX12 (by decide) mw_6_19 (fun _ _ _ _ h9 => h9) hf (by decide) rfl dX12_losesPart_9  (fun v1 hf => ?_)
    refine z_aload_n 0 dX12_losesPart_12 rfl rfl ?_
    refine z_iload_n 1 dX12_losesPart_13 rfl rfl ?_
    obtain ⟨v2, ev2, hf⟩ := ob hf
    refine z_cVi (ci := 12) (T := TX12) (N := 32) (As := [.int l1]) (rest := [.ref v1]) (zm_X12_pl ev2).2 (zm_X12_pl ev2).1 (by decide) rfl (Or.inl rfl) mw_31_6 mw_31_7 mw_31_8 mw_1_5 mw_31_9 yk_X12_pl (by decide) (by decide) rfl (Nat.le_of_ble_eq_true rfl) rfl dX12_losesPart_14 ?_
    refine z_iload_n 2 dX12_losesPart_17 rfl rfl ?_
    refine z_iadd dX12_losesPart_18 ?_
    refine z_iconst 0 0 dX12_losesPart_19 (by decide) ?_
    refine z_sI hf dX12_losesPart_20  (fun d3 hf => ?_)
    refine z_iinc [(2, .int (l2 + 1)), (0, .ref l0), (1, .int l1)] 2 (l2 + 1) dX12_losesPart_21 rfl rfl (by decide) rfl ?_
    refine z_goto 2 dX12_losesPart_24 (by decide) ?_
    refine z_lv [(0, .ref l0), (1, .int l1), (2, .int (l2 + 1))] [1, 2, 0] rfl ?_
    exact hk2 _ _ _ _ hf
set_option maxRecDepth 20000 in
theorem zb_X12_losesPart_2 {N : Nat} {sh : Sh} {r : Dt} {E : EV} (hE : TG E none (sh, r))  : ∀ (n : Nat) (l0 : Nat) (l1 : Int32) (l2 : Int32) (d : Dt), f_X12_losesPart_2 N sh n l0 l1 l2 d = some r → Z E yX12_losesPart cX12_losesPart 3 none 2 (sh, d) 2 [(0, .ref l0), (1, .int l1), (2, .int l2)] [] := by
  intro n
  induction n with
  | zero => intro l0 l1 l2 d hf; cases hf
  | succ n ih => intro l0 l1 l2 d hf; exact zg_X12_losesPart_2 hE ih hf
set_option maxRecDepth 20000 in
theorem zm_X12_losesPart {N : Nat} {sh : Sh} {d : Dt} {l0 : Nat} {l1 : Int32} {r : Dt} (hf : f_X12_losesPart N sh l0 l1 d = some r) : isO sh l0 12 ∧ ∀ (l : Launch) (G : GG), Mt l G yX12_losesPart cX12_losesPart 3 none 2 [.ref l0, .int l1] (sh, d) none (sh, r) := by
  have hf0 := hf
  unfold f_X12_losesPart at hf
  split at hf
  · rename_i hO
    refine ⟨hO, fun l G => mt_of (Or.inl (by decide)) (Nat.le_of_ble_eq_true rfl) Le.rf (fun E hE => ?_)⟩
    show Z E yX12_losesPart cX12_losesPart 3 none 2 (sh, d) 0 [(0, .ref l0), (1, .int l1)] []
    refine z_iconst 5 5 dX12_losesPart_0 (by decide) ?_
    refine z_istore_n [(2, .int (5 : Int32)), (0, .ref l0), (1, .int l1)] dX12_losesPart_1 rfl (by decide) rfl ?_
    refine z_lv [(0, .ref l0), (1, .int l1), (2, .int (5 : Int32))] [1, 2, 0] rfl ?_
    exact zb_X12_losesPart_2 hE N _ _ _ _ hf
  · cases hf
set_option maxRecDepth 20000 in
theorem zm_X12_leaves {N : Nat} {sh : Sh} {d : Dt} {l0 : Nat} {l1 : Int32} {r : Dt} (hf : f_X12_leaves N sh l0 l1 d = some r) : isO sh l0 12 ∧ ∀ (l : Launch) (G : GG), Mt l G yX12_leaves cX12_leaves 2 none 3 [.ref l0, .int l1] (sh, d) none (sh, r) := by
  have hf0 := hf
  unfold f_X12_leaves at hf
  split at hf
  · rename_i hO
    refine ⟨hO, fun l G => mt_of (Or.inl (by decide)) (Nat.le_of_ble_eq_true rfl) Le.rf (fun E hE => ?_)⟩
    show Z E yX12_leaves cX12_leaves 2 none 3 (sh, d) 0 [(0, .ref l0), (1, .int l1)] []
    refine z_aload_n 0 dX12_leaves_0 rfl rfl ?_
    refine z_gP (ci := 12) (k := 0) (C := RX12) (T := TX12) (N := 32) rfl inlX12 (by decide) mw_6_19 (fun _ _ _ _ h9 => h9) hf (by decide) rfl dX12_leaves_1  (fun v1 hf => ?_)
    refine z_aload_n 0 dX12_leaves_4 rfl rfl ?_
    refine z_iload_n 1 dX12_leaves_5 rfl rfl ?_
    obtain ⟨v2, ev2, hf⟩ := ob hf
    refine z_cVi (ci := 12) (T := TX12) (N := 32) (As := [.int l1]) (rest := [.ref v1]) (zm_X12_pl ev2).2 (zm_X12_pl ev2).1 (by decide) rfl (Or.inl rfl) mw_31_6 mw_31_7 mw_31_8 mw_1_5 mw_31_9 yk_X12_pl (by decide) (by decide) rfl (Nat.le_of_ble_eq_true rfl) rfl dX12_leaves_6 ?_
    refine z_iconst 2 2 dX12_leaves_9 (by decide) ?_
    refine z_iadd dX12_leaves_10 ?_
    refine z_iconst 1 1 dX12_leaves_11 (by decide) ?_
    refine z_sI hf dX12_leaves_12  (fun d3 hf => ?_)
    refine z_aload_n 0 dX12_leaves_13 rfl rfl ?_
    refine z_iload_n 1 dX12_leaves_14 rfl rfl ?_
    obtain ⟨v4, ev4, hf⟩ := ob hf
    refine z_cVv (ci := 12) (T := TX12) (N := 32) (As := [.int l1]) (rest := []) (zm_X12_losesPart ev4).2 (zm_X12_losesPart ev4).1 (by decide) rfl (Or.inl rfl) mw_33_11 mw_33_12 mw_33_13 mw_1_5 mw_33_14 yk_X12_losesPart (by decide) (by decide) rfl (Nat.le_of_ble_eq_true rfl) rfl dX12_leaves_15 ?_
    cases hf
    exact z_return hE rfl dX12_leaves_18
  · cases hf
