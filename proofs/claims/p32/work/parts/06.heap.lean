/-! what the instructions do to the abstract heap; none: the machine itself would throw, or it isn't told here -/
abbrev isO (sh : Sh) (a c : Nat) : Prop := sh.1.1 ≤ a ∧ a < sh.1.2.1 ∧ (sh.2.1 a = 10 + c ∨ (c = 6 ∧ (sh.2.1 a = 10 ∨ sh.2.1 a = 13 ∨ sh.2.1 a = 17 ∨ sh.2.1 a = 19)))
abbrev isA (sh : Sh) (a t : Nat) : Prop := sh.1.1 ≤ a ∧ a < sh.1.2.1 ∧ sh.2.1 a = t
abbrev inA (i : Int32) (n : Nat) : Prop := ¬ (i < 0 ∨ n ≤ i.toNatClampNeg)
def gI (sh : Sh) (d : Dt) (a c k : Nat) : Option Int32 := if isO sh a c then some (d.1 a k) else none
def gJ (sh : Sh) (d : Dt) (a c k : Nat) : Option Int64 := if isO sh a c then some (d.2.1 a k) else none
def gP (sh : Sh) (a c k : Nat) : Option Nat := if isO sh a c then sh.2.2.2 a k else none
def gQ (sh : Sh) (d : Dt) (a c k : Nat) : Option Nat := if isO sh a c then d.2.2.2 a k else none
def pI (sh : Sh) (d : Dt) (a c k : Nat) (v : Int32) : Option Dt := if isO sh a c then some (up2 d.1 a k v, d.2) else none
def pJ (sh : Sh) (d : Dt) (a c k : Nat) (v : Int64) : Option Dt := if isO sh a c then some (d.1, up2 d.2.1 a k v, d.2.2) else none
def pQ (sh : Sh) (d : Dt) (a c k : Nat) (v : Nat) : Option Dt := if isO sh a c then some (d.1, d.2.1, d.2.2.1, up2 d.2.2.2 a k (some v)) else none
def pP (s : AS) (a c k : Nat) (v : Nat) : Option AS := if isO s.1 a c then some ((s.1.1, s.1.2.1, s.1.2.2.1, up2 s.1.2.2.2 a k (some v)), s.2) else none
def aT (t : Nat) (sh : Sh) (d : Dt) (a : Nat) (i : Int32) : Option Int32 := if isA sh a t ∧ inA i (sh.2.2.1 a) then some (d.1 a i.toNatClampNeg) else none
def aJ (sh : Sh) (d : Dt) (a : Nat) (i : Int32) : Option Int64 := if isA sh a 1 ∧ inA i (sh.2.2.1 a) then some (d.2.1 a i.toNatClampNeg) else none
def aF (sh : Sh) (d : Dt) (a : Nat) (i : Int32) : Option UInt32 := if isA sh a 2 ∧ inA i (sh.2.2.1 a) then some (d.2.2.1 a i.toNatClampNeg) else none
def aQ (t : Nat) (sh : Sh) (d : Dt) (a : Nat) (i : Int32) : Option Nat := if isA sh a t ∧ inA i (sh.2.2.1 a) then d.2.2.2 a i.toNatClampNeg else none
def sI (sh : Sh) (d : Dt) (a : Nat) (i v : Int32) : Option Dt := if isA sh a 0 ∧ inA i (sh.2.2.1 a) then some (up2 d.1 a i.toNatClampNeg v, d.2) else none
def sC (sh : Sh) (d : Dt) (a : Nat) (i v : Int32) : Option Dt := if isA sh a 3 ∧ inA i (sh.2.2.1 a) then some (up2 d.1 a i.toNatClampNeg (vp_nar .char v), d.2) else none
def sZ (sh : Sh) (d : Dt) (a : Nat) (i v : Int32) : Option Dt := if isA sh a 4 ∧ inA i (sh.2.2.1 a) then some (up2 d.1 a i.toNatClampNeg (vp_nar .boolean v), d.2) else none
def sJ (sh : Sh) (d : Dt) (a : Nat) (i : Int32) (v : Int64) : Option Dt := if isA sh a 1 ∧ inA i (sh.2.2.1 a) then some (d.1, up2 d.2.1 a i.toNatClampNeg v, d.2.2) else none
def sF (sh : Sh) (d : Dt) (a : Nat) (i : Int32) (v : UInt32) : Option Dt := if isA sh a 2 ∧ inA i (sh.2.2.1 a) then some (d.1, d.2.1, up2 d.2.2.1 a i.toNatClampNeg v, d.2.2.2) else none
/-- a row into an int[][] -/
def sR (sh : Sh) (d : Dt) (a : Nat) (i : Int32) (v : Nat) : Option Dt := if isA sh a 5 ∧ inA i (sh.2.2.1 a) ∧ isA sh v 0 then some (d.1, d.2.1, d.2.2.1, up2 d.2.2.2 a i.toNatClampNeg (some v)) else none
/-- a PLOUGH into the array of them -/
def sP (sh : Sh) (d : Dt) (a : Nat) (i : Int32) (v : Nat) : Option Dt := if isA sh a 6 ∧ inA i (sh.2.2.1 a) ∧ isO sh v 6 then some (d.1, d.2.1, d.2.2.1, up2 d.2.2.2 a i.toNatClampNeg (some v)) else none
def aLen (sh : Sh) (a : Nat) : Option Int32 := if sh.1.1 ≤ a ∧ a < sh.1.2.1 ∧ sh.2.1 a < 7 then some (Int32.ofNat (sh.2.2.1 a)) else none
/-- a new cell of kind t, n long, m slots -/
def push (s : AS) (t n m : Nat) : AS := (((s.1.1.1, s.1.1.2.1 + 1, s.1.1.2.2 + m), va_up s.1.2.1 s.1.1.2.1 t, va_up s.1.2.2.1 s.1.1.2.1 n, va_up s.1.2.2.2 s.1.1.2.1 (fun _ => none)), (va_up s.2.1 s.1.1.2.1 (fun _ => 0), va_up s.2.2.1 s.1.1.2.1 (fun _ => 0), va_up s.2.2.2.1 s.1.1.2.1 (fun _ => 0), va_up s.2.2.2.2 s.1.1.2.1 (fun _ => none)))
def nArr (s : AS) (t : Nat) (n : Int32) : Option AS := if ¬ n < 0 ∧ n.toNatClampNeg < 2 ^ 20 then some (push s t n.toNatClampNeg n.toNatClampNeg) else none
def nObj (s : AS) (c : Nat) : AS := push s (10 + c) 0 (lay c).length
/-- an array of N arrays of K ints: itself first, then its rows -/
def mul (s : AS) (N K : Nat) : AS := (((s.1.1.1, s.1.1.2.1 + 1 + N, s.1.1.2.2 + (N + N * K)), fun b => if b < s.1.1.2.1 then s.1.2.1 b else if b = s.1.1.2.1 then 5 else 0, fun b => if b < s.1.1.2.1 then s.1.2.2.1 b else if b = s.1.1.2.1 then N else K, fun b => if b < s.1.1.2.1 then s.1.2.2.2 b else fun _ => none),
  (fun b => if b < s.1.1.2.1 then s.2.1 b else fun _ => 0, fun b => if b < s.1.1.2.1 then s.2.2.1 b else fun _ => 0, fun b => if b < s.1.1.2.1 then s.2.2.2.1 b else fun _ => 0, fun b => if b < s.1.1.2.1 then s.2.2.2.2 b else if b = s.1.1.2.1 then fun i => if i < N then some (s.1.1.2.1 + 1 + i) else none else fun _ => none))
def nMul (s : AS) (n k : Int32) : Option AS := if ¬ n < 0 ∧ ¬ k < 0 ∧ n.toNatClampNeg < 2 ^ 20 ∧ k.toNatClampNeg < 2 ^ 20 then some (mul s n.toNatClampNeg k.toNatClampNeg) else none
def iOf (sh : Sh) (a c : Nat) : Option Int32 := if isO sh a 6 then some (if sh.2.1 a = 10 + c then 1 else 0) else none
def cpI (t : Nat) (sh : Sh) (d : Dt) (src : Nat) (sp : Int32) (dst : Nat) (dp n : Int32) : Option Dt := if isA sh src t ∧ isA sh dst t ∧ ¬ sp < 0 ∧ ¬ dp < 0 ∧ ¬ n < 0 ∧ sp.toNatClampNeg + n.toNatClampNeg ≤ sh.2.2.1 src ∧ dp.toNatClampNeg + n.toNatClampNeg ≤ sh.2.2.1 dst then some (va_up d.1 dst (va_cpy (d.1 src) (d.1 dst) sp.toNatClampNeg dp.toNatClampNeg n.toNatClampNeg), d.2) else none
def cpC (sh : Sh) (d : Dt) (src : Nat) (sp : Int32) (dst : Nat) (dp n : Int32) : Option Dt := if ∀ i, i < n.toNatClampNeg → fits .char (.int (d.1 src (sp.toNatClampNeg + i))) = true then cpI 3 sh d src sp dst dp n else none
def cpJ (sh : Sh) (d : Dt) (src : Nat) (sp : Int32) (dst : Nat) (dp n : Int32) : Option Dt := if isA sh src 1 ∧ isA sh dst 1 ∧ ¬ sp < 0 ∧ ¬ dp < 0 ∧ ¬ n < 0 ∧ sp.toNatClampNeg + n.toNatClampNeg ≤ sh.2.2.1 src ∧ dp.toNatClampNeg + n.toNatClampNeg ≤ sh.2.2.1 dst then some (d.1, va_up d.2.1 dst (va_cpy (d.2.1 src) (d.2.1 dst) sp.toNatClampNeg dp.toNatClampNeg n.toNatClampNeg), d.2.2) else none
/-- System.arraycopy: between two arrays of ints, of chars, or of longs -/
def cpy (sh : Sh) (d : Dt) (src : Nat) (sp : Int32) (dst : Nat) (dp n : Int32) : Option Dt := if sh.2.1 src = 1 then cpJ sh d src sp dst dp n else if sh.2.1 src = 3 then cpC sh d src sp dst dp n else cpI 0 sh d src sp dst dp n
def o_min (x y9 : Int32) : Int32 := if y9 < x then y9 else x
def o_max (x y9 : Int32) : Int32 := if x < y9 then y9 else x
theorem em_o {G : GG} {sh : Sh} {d : Dt} {a c : Nat} (h : sh.2.1 a = 10 + c) : em G sh d a = .inr (c, fl sh d a 0 (lay c)) := by
  unfold em
  rw [if_neg (by omega), h, show 10 + c - 10 = c by omega]
theorem em_a {G : GG} {sh : Sh} {d : Dt} {a t : Nat} (h : sh.2.1 a = t) (ht : t < 10) : em G sh d a = .inl (G.2 t, sh.2.2.1 a, kd t d a) := by
  unfold em
  rw [if_pos (by omega), h]
section ZH
variable {p : Program} {l : Launch} {e : Env} {R : Room} {s : State} {m : MethodId} {args : Array Value} {below : List Frame} {meth : Method} {c : Code} {H : Heap} {locs : List Loc} {cells slots : Nat} {Q : State → Prop} {G : GG} {z : Nat} {sh sh' : Sh} {d d' : Dt} {a k : Nat}
/-- the heap has no more cells than the counter says -/
theorem hp_sz {g : JFrame} (kk : H.size ≤ s.heap.size + cells → W p l e R s m args below meth c H locs cells slots Q g) : W p l e R s m args below meth c H locs cells slots Q g := by
  intro T hT X
  refine kk ?_ T hT X
  have h1 := X.same.2.2.1
  rw [← hT]
  exact h1
theorem hp_low {h : AS} {H1 : Heap} (h2 : h.1.1.1 < h.1.1.2.1) (hP : va_P G.1 vwCl (wl G h.1 h.2) H1) : h.1.1.2.1 ≤ H1.size := by
  obtain ⟨k, hk⟩ := wl_pos (G := G) (sh := h.1) (d := h.2) (a := h.1.1.2.1 - 1) (by omega) (by omega)
  have := (hP k _ hk).lt
  have e9 : h.1.1.2.1 - 1 < H1.size := this
  omega
/-- behind a store into the cell a -/
theorem hp_back {H1 : Heap} {locs1 : List Loc} {H0 : Heap} (hh : hp G z H0 (sh, d) H locs) (h1 : sh.1.1 ≤ a) (h2 : a < sh.1.2.1) (hk : (wl G sh d)[k]? = some (a, em G sh d a)) (hsz : s.heap.size + cells = sh.1.2.1) (e1 : sh'.1 = sh.1) (ho : ∀ b, b ≠ a → em G sh' d' b = em G sh d b) (hP1 : va_P G.1 vwCl ((wl G sh d).set k (a, em G sh' d' a)) H1) (hS1 : va_S (fun q => z ≤ q) H0 H1 locs1)
    (hle : H1.size ≤ s.heap.size + cells) : hp G z H0 (sh', d') H1 locs1 := by
  rw [wl_set hh.1.1 h1 h2 hk e1 ho] at hP1
  have hlow := hp_low (G := G) (h := (sh', d')) (by show sh'.1.1 < sh'.1.2.1; rw [e1]; omega) hP1
  have hlow : sh'.1.2.1 ≤ H1.size := hlow
  have hz : sh.1.1 = z := hh.1.1
  have hn : z ≤ sh.1.2.1 := hh.1.2.2.1
  rw [e1] at hlow
  refine ⟨⟨?_, ?_, ?_, hP1⟩, hS1⟩
  · show sh'.1.1 = z
    rw [e1]; exact hz
  · show H1.size = sh'.1.2.1
    rw [e1]; omega
  · show z ≤ sh'.1.2.1
    rw [e1]; exact hn
end ZH
