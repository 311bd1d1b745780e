/-! CHANGES -/
def chC (w : Nat) : Nat := [2, 3, 5, 6, 7].getD w 0
def chB (w : Nat) : Nat := [0, 10, 20, 30, 36].getD w 0
def chN (w : Nat) : Nat := if w < 3 then 10 else 6
theorem mendable_v : ∀ w, w < 5 → ∀ m, f_X6_mendable (nI w) m = some (chC w, m) := by
  intro w hw m
  have : w = 0 ∨ w = 1 ∨ w = 2 ∨ w = 3 ∨ w = 4 := by omega
  rcases this with rfl | rfl | rfl | rfl | rfl <;> rfl
theorem ckS_v {w k : Nat} (hw : w < 5) (hk : k < chN w) {T : Type} (K : Option T) : ckS (chC w) (nI k) K = K := by
  have : w = 0 ∨ w = 1 ∨ w = 2 ∨ w = 3 ∨ w = 4 := by omega
  rcases this with rfl | rfl | rfl | rfl | rfl <;> exact ck_in (by exact hk) (by decide)
theorem change_v {w k : Nat} (hw : w < 5) (hk : k < chN w) (v : Int32) (m : Mem) : f_X6_change (nI k) (nI w) v m = some (sI (sI m (chC w) k v) 1 16 (gI m 1 16 + 1)) := by
  unfold f_X6_change
  have hk2 : k < 10 := by unfold chN at hk; split at hk <;> omega
  have hc : (1 = chC w) = False := by
    have : w = 0 ∨ w = 1 ∨ w = 2 ∨ w = 3 ∨ w = 4 := by omega
    rcases this with rfl | rfl | rfl | rfl | rfl <;> decide
  rw [mendable_v w hw m]
  simp only [some_bind, ckS_v hw hk, bnd, ix_n (show k < 2 ^ 31 by omega), g_sI, hc, false_and, if_false]
