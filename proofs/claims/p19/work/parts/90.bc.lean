/-! how many bits a set has: its parity -/
def bs1 (x : Int32) : Int32 := x - ((x.toUInt32 >>> ((1 : Int32).toUInt32 &&& Int32.toUInt32 31)).toInt32 &&& (1431655765 : Int32))
def bs2 (x : Int32) : Int32 := (x &&& (858993459 : Int32)) + ((x.toUInt32 >>> ((2 : Int32).toUInt32 &&& Int32.toUInt32 31)).toInt32 &&& (858993459 : Int32))
def bs3 (x : Int32) : Int32 := (x + (x.toUInt32 >>> ((4 : Int32).toUInt32 &&& Int32.toUInt32 31)).toInt32) &&& (252645135 : Int32)
def bs4 (x : Int32) : Int32 := x + (x.toUInt32 >>> ((8 : Int32).toUInt32 &&& Int32.toUInt32 31)).toInt32
def bs5 (x : Int32) : Int32 := (x + (x.toUInt32 >>> ((16 : Int32).toUInt32 &&& Int32.toUInt32 31)).toInt32) &&& (63 : Int32)
def bn1 (S : Nat) : Nat := S - ((S / 2) &&& 1431655765)
def bn2 (S : Nat) : Nat := (S &&& 858993459) + ((S / 4) &&& 858993459)
def bn3 (S : Nat) : Nat := (S + S / 16) &&& 252645135
def bn4 (S : Nat) : Nat := S + S / 256
def bn5 (S : Nat) : Nat := (S + S / 65536) &&& 63
section BC
variable {N S : Nat} {sh : Sh} {d : Dt}
theorem bs1_eq (h : S < 2 ^ 20) : bs1 (nI S) = nI (bn1 S) ∧ bn1 S < 2 ^ 20 := by
  have h1 : (S / 2) &&& 1431655765 ≤ S / 2 := Nat.and_le_left
  refine ⟨?_, by unfold bn1; omega⟩
  unfold bs1 bn1
  rw [pk_ushrN (by omega) 1 1 (by decide), show (2 : Nat) ^ 1 = 2 from rfl, show (1431655765 : Int32) = nI 1431655765 from rfl, sb_and, pk_sub (by omega)]
theorem bs2_eq (h : S < 2 ^ 20) : bs2 (nI S) = nI (bn2 S) ∧ bn2 S < 2 ^ 21 := by
  have h1 : S &&& 858993459 ≤ S := Nat.and_le_left
  have h2 : (S / 4) &&& 858993459 ≤ S / 4 := Nat.and_le_left
  refine ⟨?_, by unfold bn2; omega⟩
  unfold bs2 bn2
  rw [pk_ushrN (by omega) 2 2 (by decide), show (858993459 : Int32) = nI 858993459 from rfl, sb_and, sb_and, nI_add]
theorem bs3_eq (h : S < 2 ^ 21) : bs3 (nI S) = nI (bn3 S) ∧ bn3 S < 2 ^ 22 := by
  have h1 : (S + S / 16) &&& 252645135 ≤ S + S / 16 := Nat.and_le_left
  refine ⟨?_, by unfold bn3; omega⟩
  unfold bs3 bn3
  rw [pk_ushrN (by omega) 4 4 (by decide), show (252645135 : Int32) = nI 252645135 from rfl, nI_add, sb_and]
theorem bs4_eq (h : S < 2 ^ 22) : bs4 (nI S) = nI (bn4 S) ∧ bn4 S < 2 ^ 23 := by
  refine ⟨?_, by unfold bn4; omega⟩
  unfold bs4 bn4
  rw [pk_ushrN (by omega) 8 8 (by decide), nI_add]
theorem bs5_eq (h : S < 2 ^ 23) : bs5 (nI S) = nI (bn5 S) ∧ bn5 S < 2 ^ 24 := by
  have h1 : (S + S / 65536) &&& 63 ≤ S + S / 65536 := Nat.and_le_left
  refine ⟨?_, by unfold bn5; omega⟩
  unfold bs5 bn5
  rw [pk_ushrN (by omega) 16 16 (by decide), show (63 : Int32) = nI 63 from rfl, nI_add, sb_and]
def bcN (S : Nat) : Nat := bn5 (bn4 (bn3 (bn2 (bn1 S))))
theorem k_bcN (hS : S < 2 ^ 14) : f_J6_bitCount_0f7a4 N sh (nI S) d = some (nI (bcN S)) ∧ bcN S < 2 ^ 24 := by
  have e : f_J6_bitCount_0f7a4 N sh (nI S) d = some (bs5 (bs4 (bs3 (bs2 (bs1 (nI S)))))) := rfl
  have a1 := bs1_eq (S := S) (by omega)
  have a2 := bs2_eq a1.2
  have a3 := bs3_eq a2.2
  have a4 := bs4_eq a3.2
  have a5 := bs5_eq a4.2
  refine ⟨?_, a5.2⟩
  rw [e, a1.1, a2.1, a3.1, a4.1, a5.1]
  rfl
set_option maxRecDepth 100000 in
theorem bc_par : (List.range 128).all (fun a => (List.range 128).all (fun b => Nat.beq (bcN (128 * a + b) % 2) (pcN (128 * a + b) 14 % 2))) = true := by decide +kernel
theorem bc_mod (hS : S < 2 ^ 14) : bcN S % 2 = pcN S 14 % 2 := by
  have h1 := List.all_eq_true.mp bc_par (S / 128) (List.mem_range.mpr (by omega))
  have h2 := List.all_eq_true.mp h1 (S % 128) (List.mem_range.mpr (by omega))
  have h3 := Nat.eq_of_beq_eq_true h2
  rw [show 128 * (S / 128) + S % 128 = S by omega] at h3
  exact h3
theorem pc_ext {m : Nat} (h : inS S 0 m) : ∀ k, pcN S (m + k) = pcN S m
  | 0 => rfl
  | k + 1 => by
    show pcN S (m + k) + (if S.testBit (m + k) = true then 1 else 0) = pcN S m
    rw [pc_ext h k, if_neg (fun q => by have := h _ q; omega), Nat.add_zero]
end BC
