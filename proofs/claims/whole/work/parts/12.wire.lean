/-! ===== printed: the wiring of markets, laws, towns ===== -/
def isM (q : Nat) : Prop := q = 46 ∨ q = 48 ∨ q = 57 ∨ q = 65
def isL (n x : Nat) : Prop := (x = 16 ∨ x = 35 ∨ x = 50) ∧ x + 5 ≤ n
def isT (n t : Nat) : Prop := (t = 3 ∨ t = 22) ∧ t + 18 ≤ n
theorem isM.at {q : Nat} (h : isM q) : AT NO q 3 := by rcases h with rfl | rfl | rfl | rfl <;> exact ⟨by rfl, by decide, by decide⟩
theorem isL.at {n x : Nat} (h : isL n x) : AT n x 2 := by obtain ⟨rfl | rfl | rfl, h⟩ := h <;> exact ⟨by rfl, by omega, by omega⟩
theorem isT.at {n t : Nat} (h : isT n t) : AT n t 10 := by obtain ⟨rfl | rfl, h⟩ := h <;> exact ⟨by rfl, by omega, by omega⟩
theorem a3_2 {q : Nat} (h : isM q) : AR NO (q + 1) 20 48 := by rcases h with rfl | rfl | rfl | rfl <;> exact ⟨by rfl, by decide, by decide⟩
theorem p3_2 {P : Ptr} {q : Nat} (hW : WP P) (h : isM q) : P q 2 = q + 1 := by rcases h with rfl | rfl | rfl | rfl <;> exact wp (k := 2) hW rfl rfl (by decide)
def PL (P : Ptr) (x : Nat) : Prop := P x 4 = x + 1 ∧ P x 5 = x + 2 ∧ P x 6 = x + 3 ∧ P x 7 = x + 4 ∧ P x 8 = x + 5
theorem a2_4 {n x : Nat} (h : isL n x) : AR n (x + 1) 20 360 := by obtain ⟨rfl | rfl | rfl, h⟩ := h <;> exact ⟨by rfl, by omega, by omega⟩
theorem p2_4 {P : Ptr} {n x : Nat} (w : PL P x) (h : isL n x) : P x 4 = x + 1 := w.1
theorem a2_5 {n x : Nat} (h : isL n x) : AR n (x + 2) 20 120 := by obtain ⟨rfl | rfl | rfl, h⟩ := h <;> exact ⟨by rfl, by omega, by omega⟩
theorem p2_5 {P : Ptr} {n x : Nat} (w : PL P x) (h : isL n x) : P x 5 = x + 2 := w.2.1
theorem a2_6 {n x : Nat} (h : isL n x) : AR n (x + 3) 20 120 := by obtain ⟨rfl | rfl | rfl, h⟩ := h <;> exact ⟨by rfl, by omega, by omega⟩
theorem p2_6 {P : Ptr} {n x : Nat} (w : PL P x) (h : isL n x) : P x 6 = x + 3 := w.2.2.1
theorem a2_7 {n x : Nat} (h : isL n x) : AR n (x + 4) 20 120 := by obtain ⟨rfl | rfl | rfl, h⟩ := h <;> exact ⟨by rfl, by omega, by omega⟩
theorem p2_7 {P : Ptr} {n x : Nat} (w : PL P x) (h : isL n x) : P x 7 = x + 4 := w.2.2.2.1
theorem a2_8 {n x : Nat} (h : isL n x) : AR n (x + 5) 23 120 := by obtain ⟨rfl | rfl | rfl, h⟩ := h <;> exact ⟨by rfl, by omega, by omega⟩
theorem p2_8 {P : Ptr} {n x : Nat} (w : PL P x) (h : isL n x) : P x 8 = x + 5 := w.2.2.2.2
def PT (P : Ptr) (t : Nat) : Prop := P t 4 = t + 1 ∧ P t 5 = t + 2 ∧ P t 6 = t + 3 ∧ P t 7 = t + 4 ∧ P t 8 = t + 5 ∧ P t 9 = t + 6 ∧ P t 10 = t + 7 ∧ P t 11 = t + 8 ∧ P t 12 = t + 9 ∧ P t 13 = t + 10 ∧ P t 14 = t + 11 ∧ P t 15 = t + 12 ∧ P t 16 = t + 13 ∧ PL P (t + 13)
theorem a10_4 {n t : Nat} (h : isT n t) : AR n (t + 1) 20 48 := by obtain ⟨rfl | rfl, h⟩ := h <;> exact ⟨by rfl, by omega, by omega⟩
theorem p10_4 {P : Ptr} {n t : Nat} (w : PT P t) (h : isT n t) : P t 4 = t + 1 := w.1
theorem a10_5 {n t : Nat} (h : isT n t) : AR n (t + 2) 20 48 := by obtain ⟨rfl | rfl, h⟩ := h <;> exact ⟨by rfl, by omega, by omega⟩
theorem p10_5 {P : Ptr} {n t : Nat} (w : PT P t) (h : isT n t) : P t 5 = t + 2 := w.2.1
theorem a10_6 {n t : Nat} (h : isT n t) : AR n (t + 3) 20 6 := by obtain ⟨rfl | rfl, h⟩ := h <;> exact ⟨by rfl, by omega, by omega⟩
theorem p10_6 {P : Ptr} {n t : Nat} (w : PT P t) (h : isT n t) : P t 6 = t + 3 := w.2.2.1
theorem a10_7 {n t : Nat} (h : isT n t) : AR n (t + 4) 20 6 := by obtain ⟨rfl | rfl, h⟩ := h <;> exact ⟨by rfl, by omega, by omega⟩
theorem p10_7 {P : Ptr} {n t : Nat} (w : PT P t) (h : isT n t) : P t 7 = t + 4 := w.2.2.2.1
theorem a10_8 {n t : Nat} (h : isT n t) : AR n (t + 5) 20 36 := by obtain ⟨rfl | rfl, h⟩ := h <;> exact ⟨by rfl, by omega, by omega⟩
theorem p10_8 {P : Ptr} {n t : Nat} (w : PT P t) (h : isT n t) : P t 8 = t + 5 := w.2.2.2.2.1
theorem a10_9 {n t : Nat} (h : isT n t) : AR n (t + 6) 20 36 := by obtain ⟨rfl | rfl, h⟩ := h <;> exact ⟨by rfl, by omega, by omega⟩
theorem p10_9 {P : Ptr} {n t : Nat} (w : PT P t) (h : isT n t) : P t 9 = t + 6 := w.2.2.2.2.2.1
theorem a10_10 {n t : Nat} (h : isT n t) : AR n (t + 7) 20 36 := by obtain ⟨rfl | rfl, h⟩ := h <;> exact ⟨by rfl, by omega, by omega⟩
theorem p10_10 {P : Ptr} {n t : Nat} (w : PT P t) (h : isT n t) : P t 10 = t + 7 := w.2.2.2.2.2.2.1
theorem a10_11 {n t : Nat} (h : isT n t) : AR n (t + 8) 20 4 := by obtain ⟨rfl | rfl, h⟩ := h <;> exact ⟨by rfl, by omega, by omega⟩
theorem p10_11 {P : Ptr} {n t : Nat} (w : PT P t) (h : isT n t) : P t 11 = t + 8 := w.2.2.2.2.2.2.2.1
theorem a10_12 {n t : Nat} (h : isT n t) : AR n (t + 9) 20 4 := by obtain ⟨rfl | rfl, h⟩ := h <;> exact ⟨by rfl, by omega, by omega⟩
theorem p10_12 {P : Ptr} {n t : Nat} (w : PT P t) (h : isT n t) : P t 12 = t + 9 := w.2.2.2.2.2.2.2.2.1
theorem a10_13 {n t : Nat} (h : isT n t) : AR n (t + 10) 20 4 := by obtain ⟨rfl | rfl, h⟩ := h <;> exact ⟨by rfl, by omega, by omega⟩
theorem p10_13 {P : Ptr} {n t : Nat} (w : PT P t) (h : isT n t) : P t 13 = t + 10 := w.2.2.2.2.2.2.2.2.2.1
theorem a10_14 {n t : Nat} (h : isT n t) : AR n (t + 11) 20 8 := by obtain ⟨rfl | rfl, h⟩ := h <;> exact ⟨by rfl, by omega, by omega⟩
theorem p10_14 {P : Ptr} {n t : Nat} (w : PT P t) (h : isT n t) : P t 14 = t + 11 := w.2.2.2.2.2.2.2.2.2.2.1
theorem a10_15 {n t : Nat} (h : isT n t) : AR n (t + 12) 20 8 := by obtain ⟨rfl | rfl, h⟩ := h <;> exact ⟨by rfl, by omega, by omega⟩
theorem p10_15 {P : Ptr} {n t : Nat} (w : PT P t) (h : isT n t) : P t 15 = t + 12 := w.2.2.2.2.2.2.2.2.2.2.2.1
theorem h10_16 {n t : Nat} (h : isT n t) : isL n (t + 13) := by obtain ⟨rfl | rfl, h⟩ := h <;> exact ⟨by decide, by omega⟩
theorem a10_16 {n t : Nat} (h : isT n t) : AT n (t + 13) 2 := (h10_16 h).at
theorem w10_16 {P : Ptr} {t : Nat} (w : PT P t) : PL P (t + 13) := w.2.2.2.2.2.2.2.2.2.2.2.2.2
theorem p10_16 {P : Ptr} {n t : Nat} (w : PT P t) (h : isT n t) : P t 16 = t + 13 := w.2.2.2.2.2.2.2.2.2.2.2.2.1
theorem wp_L {P : Ptr} {n x : Nat} (hW : WP P) (h : isL n x) : PL P x := by
  obtain ⟨rfl | rfl | rfl, h⟩ := h <;> exact ⟨wp (k := 4) hW rfl rfl (by decide), wp (k := 5) hW rfl rfl (by decide), wp (k := 6) hW rfl rfl (by decide), wp (k := 7) hW rfl rfl (by decide), wp (k := 8) hW rfl rfl (by decide)⟩
theorem wp_T {P : Ptr} {n t : Nat} (hW : WP P) (h : isT n t) : PT P t := by
  have hl := wp_L hW (h10_16 h)
  obtain ⟨rfl | rfl, h⟩ := h <;> exact ⟨wp (k := 4) hW rfl rfl (by decide), wp (k := 5) hW rfl rfl (by decide), wp (k := 6) hW rfl rfl (by decide), wp (k := 7) hW rfl rfl (by decide), wp (k := 8) hW rfl rfl (by decide), wp (k := 9) hW rfl rfl (by decide), wp (k := 10) hW rfl rfl (by decide), wp (k := 11) hW rfl rfl (by decide), wp (k := 12) hW rfl rfl (by decide), wp (k := 13) hW rfl rfl (by decide), wp (k := 14) hW rfl rfl (by decide), wp (k := 15) hW rfl rfl (by decide), wp (k := 16) hW rfl rfl (by decide), hl⟩
