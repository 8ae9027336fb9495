/-! the reference's words: which number is which word -/
theorem sp_k0 (σ : Mem) : X11_spelt σ 0 0 2 21 19 25 = some 87673 := congrArg some (by decide +kernel)
theorem vfd_0 {B : Nat → Int} {s L : Nat} (hL : 1 ≤ L ∧ L ≤ 6) (hb : ∀ j, s ≤ j → j < s + L → 97 ≤ B j ∧ B j ≤ 122) : vfd B L s 0 = 87673 ↔ spW B s L 0 := by
  have hlen : sLen.getD 0 0 = 4 := rfl
  have c0 : sch 0 0 = 98 := by decide +kernel
  have c1 : sch 0 1 = 117 := by decide +kernel
  have c2 : sch 0 2 = 115 := by decide +kernel
  have c3 : sch 0 3 = 121 := by decide +kernel
  rcases (by omega : L = 1 ∨ L = 2 ∨ L = 3 ∨ L = 4 ∨ L = 5 ∨ L = 6) with rfl | rfl | rfl | rfl | rfl | rfl
  · have h0 := hb s (by omega) (by omega)
    constructor
    · intro h
      exfalso
      have h' : (32 * 0 + (B s - 96)) = 87673 := h
      omega
    · intro h
      exfalso
      have h' : 1 = sLen.getD 0 0 := h.1
      rw [hlen] at h'
      omega
  · have h0 := hb s (by omega) (by omega)
    have h1 := hb (s + 1) (by omega) (by omega)
    constructor
    · intro h
      exfalso
      have h' : (32 * (32 * 0 + (B s - 96)) + (B (s + 1) - 96)) = 87673 := h
      omega
    · intro h
      exfalso
      have h' : 2 = sLen.getD 0 0 := h.1
      rw [hlen] at h'
      omega
  · have h0 := hb s (by omega) (by omega)
    have h1 := hb (s + 1) (by omega) (by omega)
    have h2 := hb (s + 1 + 1) (by omega) (by omega)
    constructor
    · intro h
      exfalso
      have h' : (32 * (32 * (32 * 0 + (B s - 96)) + (B (s + 1) - 96)) + (B (s + 1 + 1) - 96)) = 87673 := h
      omega
    · intro h
      exfalso
      have h' : 3 = sLen.getD 0 0 := h.1
      rw [hlen] at h'
      omega
  · have h0 := hb s (by omega) (by omega)
    have h1 := hb (s + 1) (by omega) (by omega)
    have h2 := hb (s + 1 + 1) (by omega) (by omega)
    have h3 := hb (s + 1 + 1 + 1) (by omega) (by omega)
    constructor
    · intro h
      have h' : (32 * (32 * (32 * (32 * 0 + (B s - 96)) + (B (s + 1) - 96)) + (B (s + 1 + 1) - 96)) + (B (s + 1 + 1 + 1) - 96)) = 87673 := h
      refine ⟨rfl, fun i hi => ?_⟩
      rw [hlen] at hi
      rcases (by omega : i = 0 ∨ i = 1 ∨ i = 2 ∨ i = 3) with rfl | rfl | rfl | rfl
      · rw [c0]
        show B s = 98
        omega
      · rw [c1]
        show B (s + 1) = 117
        omega
      · rw [c2]
        show B (s + 1 + 1) = 115
        omega
      · rw [c3]
        show B (s + 1 + 1 + 1) = 121
        omega
    · rintro ⟨_, h⟩
      have a0 : B s = 98 := by have := h 0 (by rw [hlen]; omega); rw [c0] at this; exact this
      have a1 : B (s + 1) = 117 := by have := h 1 (by rw [hlen]; omega); rw [c1] at this; exact this
      have a2 : B (s + 1 + 1) = 115 := by have := h 2 (by rw [hlen]; omega); rw [c2] at this; exact this
      have a3 : B (s + 1 + 1 + 1) = 121 := by have := h 3 (by rw [hlen]; omega); rw [c3] at this; exact this
      show (32 * (32 * (32 * (32 * 0 + (B s - 96)) + (B (s + 1) - 96)) + (B (s + 1 + 1) - 96)) + (B (s + 1 + 1 + 1) - 96)) = 87673
      omega
  · have h0 := hb s (by omega) (by omega)
    have h1 := hb (s + 1) (by omega) (by omega)
    have h2 := hb (s + 1 + 1) (by omega) (by omega)
    have h3 := hb (s + 1 + 1 + 1) (by omega) (by omega)
    have h4 := hb (s + 1 + 1 + 1 + 1) (by omega) (by omega)
    constructor
    · intro h
      exfalso
      have h' : (32 * (32 * (32 * (32 * (32 * 0 + (B s - 96)) + (B (s + 1) - 96)) + (B (s + 1 + 1) - 96)) + (B (s + 1 + 1 + 1) - 96)) + (B (s + 1 + 1 + 1 + 1) - 96)) = 87673 := h
      omega
    · intro h
      exfalso
      have h' : 5 = sLen.getD 0 0 := h.1
      rw [hlen] at h'
      omega
  · have h0 := hb s (by omega) (by omega)
    have h1 := hb (s + 1) (by omega) (by omega)
    have h2 := hb (s + 1 + 1) (by omega) (by omega)
    have h3 := hb (s + 1 + 1 + 1) (by omega) (by omega)
    have h4 := hb (s + 1 + 1 + 1 + 1) (by omega) (by omega)
    have h5 := hb (s + 1 + 1 + 1 + 1 + 1) (by omega) (by omega)
    constructor
    · intro h
      exfalso
      have h' : (32 * (32 * (32 * (32 * (32 * (32 * 0 + (B s - 96)) + (B (s + 1) - 96)) + (B (s + 1 + 1) - 96)) + (B (s + 1 + 1 + 1) - 96)) + (B (s + 1 + 1 + 1 + 1) - 96)) + (B (s + 1 + 1 + 1 + 1 + 1) - 96)) = 87673 := h
      omega
    · intro h
      exfalso
      have h' : 6 = sLen.getD 0 0 := h.1
      rw [hlen] at h'
      omega
theorem sp_k1 (σ : Mem) : X11_spelt σ 0 0 8 1 12 6 = some 263558 := congrArg some (by decide +kernel)
theorem vfd_1 {B : Nat → Int} {s L : Nat} (hL : 1 ≤ L ∧ L ≤ 6) (hb : ∀ j, s ≤ j → j < s + L → 97 ≤ B j ∧ B j ≤ 122) : vfd B L s 0 = 263558 ↔ spW B s L 1 := by
  have hlen : sLen.getD 1 0 = 4 := rfl
  have c0 : sch 1 0 = 104 := by decide +kernel
  have c1 : sch 1 1 = 97 := by decide +kernel
  have c2 : sch 1 2 = 108 := by decide +kernel
  have c3 : sch 1 3 = 102 := by decide +kernel
  rcases (by omega : L = 1 ∨ L = 2 ∨ L = 3 ∨ L = 4 ∨ L = 5 ∨ L = 6) with rfl | rfl | rfl | rfl | rfl | rfl
  · have h0 := hb s (by omega) (by omega)
    constructor
    · intro h
      exfalso
      have h' : (32 * 0 + (B s - 96)) = 263558 := h
      omega
    · intro h
      exfalso
      have h' : 1 = sLen.getD 1 0 := h.1
      rw [hlen] at h'
      omega
  · have h0 := hb s (by omega) (by omega)
    have h1 := hb (s + 1) (by omega) (by omega)
    constructor
    · intro h
      exfalso
      have h' : (32 * (32 * 0 + (B s - 96)) + (B (s + 1) - 96)) = 263558 := h
      omega
    · intro h
      exfalso
      have h' : 2 = sLen.getD 1 0 := h.1
      rw [hlen] at h'
      omega
  · have h0 := hb s (by omega) (by omega)
    have h1 := hb (s + 1) (by omega) (by omega)
    have h2 := hb (s + 1 + 1) (by omega) (by omega)
    constructor
    · intro h
      exfalso
      have h' : (32 * (32 * (32 * 0 + (B s - 96)) + (B (s + 1) - 96)) + (B (s + 1 + 1) - 96)) = 263558 := h
      omega
    · intro h
      exfalso
      have h' : 3 = sLen.getD 1 0 := h.1
      rw [hlen] at h'
      omega
  · have h0 := hb s (by omega) (by omega)
    have h1 := hb (s + 1) (by omega) (by omega)
    have h2 := hb (s + 1 + 1) (by omega) (by omega)
    have h3 := hb (s + 1 + 1 + 1) (by omega) (by omega)
    constructor
    · intro h
      have h' : (32 * (32 * (32 * (32 * 0 + (B s - 96)) + (B (s + 1) - 96)) + (B (s + 1 + 1) - 96)) + (B (s + 1 + 1 + 1) - 96)) = 263558 := h
      refine ⟨rfl, fun i hi => ?_⟩
      rw [hlen] at hi
      rcases (by omega : i = 0 ∨ i = 1 ∨ i = 2 ∨ i = 3) with rfl | rfl | rfl | rfl
      · rw [c0]
        show B s = 104
        omega
      · rw [c1]
        show B (s + 1) = 97
        omega
      · rw [c2]
        show B (s + 1 + 1) = 108
        omega
      · rw [c3]
        show B (s + 1 + 1 + 1) = 102
        omega
    · rintro ⟨_, h⟩
      have a0 : B s = 104 := by have := h 0 (by rw [hlen]; omega); rw [c0] at this; exact this
      have a1 : B (s + 1) = 97 := by have := h 1 (by rw [hlen]; omega); rw [c1] at this; exact this
      have a2 : B (s + 1 + 1) = 108 := by have := h 2 (by rw [hlen]; omega); rw [c2] at this; exact this
      have a3 : B (s + 1 + 1 + 1) = 102 := by have := h 3 (by rw [hlen]; omega); rw [c3] at this; exact this
      show (32 * (32 * (32 * (32 * 0 + (B s - 96)) + (B (s + 1) - 96)) + (B (s + 1 + 1) - 96)) + (B (s + 1 + 1 + 1) - 96)) = 263558
      omega
  · have h0 := hb s (by omega) (by omega)
    have h1 := hb (s + 1) (by omega) (by omega)
    have h2 := hb (s + 1 + 1) (by omega) (by omega)
    have h3 := hb (s + 1 + 1 + 1) (by omega) (by omega)
    have h4 := hb (s + 1 + 1 + 1 + 1) (by omega) (by omega)
    constructor
    · intro h
      exfalso
      have h' : (32 * (32 * (32 * (32 * (32 * 0 + (B s - 96)) + (B (s + 1) - 96)) + (B (s + 1 + 1) - 96)) + (B (s + 1 + 1 + 1) - 96)) + (B (s + 1 + 1 + 1 + 1) - 96)) = 263558 := h
      omega
    · intro h
      exfalso
      have h' : 5 = sLen.getD 1 0 := h.1
      rw [hlen] at h'
      omega
  · have h0 := hb s (by omega) (by omega)
    have h1 := hb (s + 1) (by omega) (by omega)
    have h2 := hb (s + 1 + 1) (by omega) (by omega)
    have h3 := hb (s + 1 + 1 + 1) (by omega) (by omega)
    have h4 := hb (s + 1 + 1 + 1 + 1) (by omega) (by omega)
    have h5 := hb (s + 1 + 1 + 1 + 1 + 1) (by omega) (by omega)
    constructor
    · intro h
      exfalso
      have h' : (32 * (32 * (32 * (32 * (32 * (32 * 0 + (B s - 96)) + (B (s + 1) - 96)) + (B (s + 1 + 1) - 96)) + (B (s + 1 + 1 + 1) - 96)) + (B (s + 1 + 1 + 1 + 1) - 96)) + (B (s + 1 + 1 + 1 + 1 + 1) - 96)) = 263558 := h
      omega
    · intro h
      exfalso
      have h' : 6 = sLen.getD 1 0 := h.1
      rw [hlen] at h'
      omega
theorem sp_k2 (σ : Mem) : X11_spelt σ 0 0 6 18 5 5 = some 215205 := congrArg some (by decide +kernel)
theorem vfd_2 {B : Nat → Int} {s L : Nat} (hL : 1 ≤ L ∧ L ≤ 6) (hb : ∀ j, s ≤ j → j < s + L → 97 ≤ B j ∧ B j ≤ 122) : vfd B L s 0 = 215205 ↔ spW B s L 2 := by
  have hlen : sLen.getD 2 0 = 4 := rfl
  have c0 : sch 2 0 = 102 := by decide +kernel
  have c1 : sch 2 1 = 114 := by decide +kernel
  have c2 : sch 2 2 = 101 := by decide +kernel
  have c3 : sch 2 3 = 101 := by decide +kernel
  rcases (by omega : L = 1 ∨ L = 2 ∨ L = 3 ∨ L = 4 ∨ L = 5 ∨ L = 6) with rfl | rfl | rfl | rfl | rfl | rfl
  · have h0 := hb s (by omega) (by omega)
    constructor
    · intro h
      exfalso
      have h' : (32 * 0 + (B s - 96)) = 215205 := h
      omega
    · intro h
      exfalso
      have h' : 1 = sLen.getD 2 0 := h.1
      rw [hlen] at h'
      omega
  · have h0 := hb s (by omega) (by omega)
    have h1 := hb (s + 1) (by omega) (by omega)
    constructor
    · intro h
      exfalso
      have h' : (32 * (32 * 0 + (B s - 96)) + (B (s + 1) - 96)) = 215205 := h
      omega
    · intro h
      exfalso
      have h' : 2 = sLen.getD 2 0 := h.1
      rw [hlen] at h'
      omega
  · have h0 := hb s (by omega) (by omega)
    have h1 := hb (s + 1) (by omega) (by omega)
    have h2 := hb (s + 1 + 1) (by omega) (by omega)
    constructor
    · intro h
      exfalso
      have h' : (32 * (32 * (32 * 0 + (B s - 96)) + (B (s + 1) - 96)) + (B (s + 1 + 1) - 96)) = 215205 := h
      omega
    · intro h
      exfalso
      have h' : 3 = sLen.getD 2 0 := h.1
      rw [hlen] at h'
      omega
  · have h0 := hb s (by omega) (by omega)
    have h1 := hb (s + 1) (by omega) (by omega)
    have h2 := hb (s + 1 + 1) (by omega) (by omega)
    have h3 := hb (s + 1 + 1 + 1) (by omega) (by omega)
    constructor
    · intro h
      have h' : (32 * (32 * (32 * (32 * 0 + (B s - 96)) + (B (s + 1) - 96)) + (B (s + 1 + 1) - 96)) + (B (s + 1 + 1 + 1) - 96)) = 215205 := h
      refine ⟨rfl, fun i hi => ?_⟩
      rw [hlen] at hi
      rcases (by omega : i = 0 ∨ i = 1 ∨ i = 2 ∨ i = 3) with rfl | rfl | rfl | rfl
      · rw [c0]
        show B s = 102
        omega
      · rw [c1]
        show B (s + 1) = 114
        omega
      · rw [c2]
        show B (s + 1 + 1) = 101
        omega
      · rw [c3]
        show B (s + 1 + 1 + 1) = 101
        omega
    · rintro ⟨_, h⟩
      have a0 : B s = 102 := by have := h 0 (by rw [hlen]; omega); rw [c0] at this; exact this
      have a1 : B (s + 1) = 114 := by have := h 1 (by rw [hlen]; omega); rw [c1] at this; exact this
      have a2 : B (s + 1 + 1) = 101 := by have := h 2 (by rw [hlen]; omega); rw [c2] at this; exact this
      have a3 : B (s + 1 + 1 + 1) = 101 := by have := h 3 (by rw [hlen]; omega); rw [c3] at this; exact this
      show (32 * (32 * (32 * (32 * 0 + (B s - 96)) + (B (s + 1) - 96)) + (B (s + 1 + 1) - 96)) + (B (s + 1 + 1 + 1) - 96)) = 215205
      omega
  · have h0 := hb s (by omega) (by omega)
    have h1 := hb (s + 1) (by omega) (by omega)
    have h2 := hb (s + 1 + 1) (by omega) (by omega)
    have h3 := hb (s + 1 + 1 + 1) (by omega) (by omega)
    have h4 := hb (s + 1 + 1 + 1 + 1) (by omega) (by omega)
    constructor
    · intro h
      exfalso
      have h' : (32 * (32 * (32 * (32 * (32 * 0 + (B s - 96)) + (B (s + 1) - 96)) + (B (s + 1 + 1) - 96)) + (B (s + 1 + 1 + 1) - 96)) + (B (s + 1 + 1 + 1 + 1) - 96)) = 215205 := h
      omega
    · intro h
      exfalso
      have h' : 5 = sLen.getD 2 0 := h.1
      rw [hlen] at h'
      omega
  · have h0 := hb s (by omega) (by omega)
    have h1 := hb (s + 1) (by omega) (by omega)
    have h2 := hb (s + 1 + 1) (by omega) (by omega)
    have h3 := hb (s + 1 + 1 + 1) (by omega) (by omega)
    have h4 := hb (s + 1 + 1 + 1 + 1) (by omega) (by omega)
    have h5 := hb (s + 1 + 1 + 1 + 1 + 1) (by omega) (by omega)
    constructor
    · intro h
      exfalso
      have h' : (32 * (32 * (32 * (32 * (32 * (32 * 0 + (B s - 96)) + (B (s + 1) - 96)) + (B (s + 1 + 1) - 96)) + (B (s + 1 + 1 + 1) - 96)) + (B (s + 1 + 1 + 1 + 1) - 96)) + (B (s + 1 + 1 + 1 + 1 + 1) - 96)) = 215205 := h
      omega
    · intro h
      exfalso
      have h' : 6 = sLen.getD 2 0 := h.1
      rw [hlen] at h'
      omega
theorem sp_k3 (σ : Mem) : X11_spelt σ 0 2 5 1 20 19 = some 2262675 := congrArg some (by decide +kernel)
theorem vfd_3 {B : Nat → Int} {s L : Nat} (hL : 1 ≤ L ∧ L ≤ 6) (hb : ∀ j, s ≤ j → j < s + L → 97 ≤ B j ∧ B j ≤ 122) : vfd B L s 0 = 2262675 ↔ spW B s L 3 := by
  have hlen : sLen.getD 3 0 = 5 := rfl
  have c0 : sch 3 0 = 98 := by decide +kernel
  have c1 : sch 3 1 = 101 := by decide +kernel
  have c2 : sch 3 2 = 97 := by decide +kernel
  have c3 : sch 3 3 = 116 := by decide +kernel
  have c4 : sch 3 4 = 115 := by decide +kernel
  rcases (by omega : L = 1 ∨ L = 2 ∨ L = 3 ∨ L = 4 ∨ L = 5 ∨ L = 6) with rfl | rfl | rfl | rfl | rfl | rfl
  · have h0 := hb s (by omega) (by omega)
    constructor
    · intro h
      exfalso
      have h' : (32 * 0 + (B s - 96)) = 2262675 := h
      omega
    · intro h
      exfalso
      have h' : 1 = sLen.getD 3 0 := h.1
      rw [hlen] at h'
      omega
  · have h0 := hb s (by omega) (by omega)
    have h1 := hb (s + 1) (by omega) (by omega)
    constructor
    · intro h
      exfalso
      have h' : (32 * (32 * 0 + (B s - 96)) + (B (s + 1) - 96)) = 2262675 := h
      omega
    · intro h
      exfalso
      have h' : 2 = sLen.getD 3 0 := h.1
      rw [hlen] at h'
      omega
  · have h0 := hb s (by omega) (by omega)
    have h1 := hb (s + 1) (by omega) (by omega)
    have h2 := hb (s + 1 + 1) (by omega) (by omega)
    constructor
    · intro h
      exfalso
      have h' : (32 * (32 * (32 * 0 + (B s - 96)) + (B (s + 1) - 96)) + (B (s + 1 + 1) - 96)) = 2262675 := h
      omega
    · intro h
      exfalso
      have h' : 3 = sLen.getD 3 0 := h.1
      rw [hlen] at h'
      omega
  · have h0 := hb s (by omega) (by omega)
    have h1 := hb (s + 1) (by omega) (by omega)
    have h2 := hb (s + 1 + 1) (by omega) (by omega)
    have h3 := hb (s + 1 + 1 + 1) (by omega) (by omega)
    constructor
    · intro h
      exfalso
      have h' : (32 * (32 * (32 * (32 * 0 + (B s - 96)) + (B (s + 1) - 96)) + (B (s + 1 + 1) - 96)) + (B (s + 1 + 1 + 1) - 96)) = 2262675 := h
      omega
    · intro h
      exfalso
      have h' : 4 = sLen.getD 3 0 := h.1
      rw [hlen] at h'
      omega
  · have h0 := hb s (by omega) (by omega)
    have h1 := hb (s + 1) (by omega) (by omega)
    have h2 := hb (s + 1 + 1) (by omega) (by omega)
    have h3 := hb (s + 1 + 1 + 1) (by omega) (by omega)
    have h4 := hb (s + 1 + 1 + 1 + 1) (by omega) (by omega)
    constructor
    · intro h
      have h' : (32 * (32 * (32 * (32 * (32 * 0 + (B s - 96)) + (B (s + 1) - 96)) + (B (s + 1 + 1) - 96)) + (B (s + 1 + 1 + 1) - 96)) + (B (s + 1 + 1 + 1 + 1) - 96)) = 2262675 := h
      refine ⟨rfl, fun i hi => ?_⟩
      rw [hlen] at hi
      rcases (by omega : i = 0 ∨ i = 1 ∨ i = 2 ∨ i = 3 ∨ i = 4) with rfl | rfl | rfl | rfl | rfl
      · rw [c0]
        show B s = 98
        omega
      · rw [c1]
        show B (s + 1) = 101
        omega
      · rw [c2]
        show B (s + 1 + 1) = 97
        omega
      · rw [c3]
        show B (s + 1 + 1 + 1) = 116
        omega
      · rw [c4]
        show B (s + 1 + 1 + 1 + 1) = 115
        omega
    · rintro ⟨_, h⟩
      have a0 : B s = 98 := by have := h 0 (by rw [hlen]; omega); rw [c0] at this; exact this
      have a1 : B (s + 1) = 101 := by have := h 1 (by rw [hlen]; omega); rw [c1] at this; exact this
      have a2 : B (s + 1 + 1) = 97 := by have := h 2 (by rw [hlen]; omega); rw [c2] at this; exact this
      have a3 : B (s + 1 + 1 + 1) = 116 := by have := h 3 (by rw [hlen]; omega); rw [c3] at this; exact this
      have a4 : B (s + 1 + 1 + 1 + 1) = 115 := by have := h 4 (by rw [hlen]; omega); rw [c4] at this; exact this
      show (32 * (32 * (32 * (32 * (32 * 0 + (B s - 96)) + (B (s + 1) - 96)) + (B (s + 1 + 1) - 96)) + (B (s + 1 + 1 + 1) - 96)) + (B (s + 1 + 1 + 1 + 1) - 96)) = 2262675
      omega
  · have h0 := hb s (by omega) (by omega)
    have h1 := hb (s + 1) (by omega) (by omega)
    have h2 := hb (s + 1 + 1) (by omega) (by omega)
    have h3 := hb (s + 1 + 1 + 1) (by omega) (by omega)
    have h4 := hb (s + 1 + 1 + 1 + 1) (by omega) (by omega)
    have h5 := hb (s + 1 + 1 + 1 + 1 + 1) (by omega) (by omega)
    constructor
    · intro h
      exfalso
      have h' : (32 * (32 * (32 * (32 * (32 * (32 * 0 + (B s - 96)) + (B (s + 1) - 96)) + (B (s + 1 + 1) - 96)) + (B (s + 1 + 1 + 1) - 96)) + (B (s + 1 + 1 + 1 + 1) - 96)) + (B (s + 1 + 1 + 1 + 1 + 1) - 96)) = 2262675 := h
      omega
    · intro h
      exfalso
      have h' : 6 = sLen.getD 3 0 := h.1
      rw [hlen] at h'
      omega
theorem sp_k4 (σ : Mem) : X11_spelt σ 0 0 11 5 5 16 = some 365744 := congrArg some (by decide +kernel)
theorem vfd_4 {B : Nat → Int} {s L : Nat} (hL : 1 ≤ L ∧ L ≤ 6) (hb : ∀ j, s ≤ j → j < s + L → 97 ≤ B j ∧ B j ≤ 122) : vfd B L s 0 = 365744 ↔ spW B s L 4 := by
  have hlen : sLen.getD 4 0 = 4 := rfl
  have c0 : sch 4 0 = 107 := by decide +kernel
  have c1 : sch 4 1 = 101 := by decide +kernel
  have c2 : sch 4 2 = 101 := by decide +kernel
  have c3 : sch 4 3 = 112 := by decide +kernel
  rcases (by omega : L = 1 ∨ L = 2 ∨ L = 3 ∨ L = 4 ∨ L = 5 ∨ L = 6) with rfl | rfl | rfl | rfl | rfl | rfl
  · have h0 := hb s (by omega) (by omega)
    constructor
    · intro h
      exfalso
      have h' : (32 * 0 + (B s - 96)) = 365744 := h
      omega
    · intro h
      exfalso
      have h' : 1 = sLen.getD 4 0 := h.1
      rw [hlen] at h'
      omega
  · have h0 := hb s (by omega) (by omega)
    have h1 := hb (s + 1) (by omega) (by omega)
    constructor
    · intro h
      exfalso
      have h' : (32 * (32 * 0 + (B s - 96)) + (B (s + 1) - 96)) = 365744 := h
      omega
    · intro h
      exfalso
      have h' : 2 = sLen.getD 4 0 := h.1
      rw [hlen] at h'
      omega
  · have h0 := hb s (by omega) (by omega)
    have h1 := hb (s + 1) (by omega) (by omega)
    have h2 := hb (s + 1 + 1) (by omega) (by omega)
    constructor
    · intro h
      exfalso
      have h' : (32 * (32 * (32 * 0 + (B s - 96)) + (B (s + 1) - 96)) + (B (s + 1 + 1) - 96)) = 365744 := h
      omega
    · intro h
      exfalso
      have h' : 3 = sLen.getD 4 0 := h.1
      rw [hlen] at h'
      omega
  · have h0 := hb s (by omega) (by omega)
    have h1 := hb (s + 1) (by omega) (by omega)
    have h2 := hb (s + 1 + 1) (by omega) (by omega)
    have h3 := hb (s + 1 + 1 + 1) (by omega) (by omega)
    constructor
    · intro h
      have h' : (32 * (32 * (32 * (32 * 0 + (B s - 96)) + (B (s + 1) - 96)) + (B (s + 1 + 1) - 96)) + (B (s + 1 + 1 + 1) - 96)) = 365744 := h
      refine ⟨rfl, fun i hi => ?_⟩
      rw [hlen] at hi
      rcases (by omega : i = 0 ∨ i = 1 ∨ i = 2 ∨ i = 3) with rfl | rfl | rfl | rfl
      · rw [c0]
        show B s = 107
        omega
      · rw [c1]
        show B (s + 1) = 101
        omega
      · rw [c2]
        show B (s + 1 + 1) = 101
        omega
      · rw [c3]
        show B (s + 1 + 1 + 1) = 112
        omega
    · rintro ⟨_, h⟩
      have a0 : B s = 107 := by have := h 0 (by rw [hlen]; omega); rw [c0] at this; exact this
      have a1 : B (s + 1) = 101 := by have := h 1 (by rw [hlen]; omega); rw [c1] at this; exact this
      have a2 : B (s + 1 + 1) = 101 := by have := h 2 (by rw [hlen]; omega); rw [c2] at this; exact this
      have a3 : B (s + 1 + 1 + 1) = 112 := by have := h 3 (by rw [hlen]; omega); rw [c3] at this; exact this
      show (32 * (32 * (32 * (32 * 0 + (B s - 96)) + (B (s + 1) - 96)) + (B (s + 1 + 1) - 96)) + (B (s + 1 + 1 + 1) - 96)) = 365744
      omega
  · have h0 := hb s (by omega) (by omega)
    have h1 := hb (s + 1) (by omega) (by omega)
    have h2 := hb (s + 1 + 1) (by omega) (by omega)
    have h3 := hb (s + 1 + 1 + 1) (by omega) (by omega)
    have h4 := hb (s + 1 + 1 + 1 + 1) (by omega) (by omega)
    constructor
    · intro h
      exfalso
      have h' : (32 * (32 * (32 * (32 * (32 * 0 + (B s - 96)) + (B (s + 1) - 96)) + (B (s + 1 + 1) - 96)) + (B (s + 1 + 1 + 1) - 96)) + (B (s + 1 + 1 + 1 + 1) - 96)) = 365744 := h
      omega
    · intro h
      exfalso
      have h' : 5 = sLen.getD 4 0 := h.1
      rw [hlen] at h'
      omega
  · have h0 := hb s (by omega) (by omega)
    have h1 := hb (s + 1) (by omega) (by omega)
    have h2 := hb (s + 1 + 1) (by omega) (by omega)
    have h3 := hb (s + 1 + 1 + 1) (by omega) (by omega)
    have h4 := hb (s + 1 + 1 + 1 + 1) (by omega) (by omega)
    have h5 := hb (s + 1 + 1 + 1 + 1 + 1) (by omega) (by omega)
    constructor
    · intro h
      exfalso
      have h' : (32 * (32 * (32 * (32 * (32 * (32 * 0 + (B s - 96)) + (B (s + 1) - 96)) + (B (s + 1 + 1) - 96)) + (B (s + 1 + 1 + 1) - 96)) + (B (s + 1 + 1 + 1 + 1) - 96)) + (B (s + 1 + 1 + 1 + 1 + 1) - 96)) = 365744 := h
      omega
    · intro h
      exfalso
      have h' : 6 = sLen.getD 4 0 := h.1
      rw [hlen] at h'
      omega
theorem sp_k5 (σ : Mem) : X11_spelt σ 12 5 20 20 5 18 = some 408572082 := congrArg some (by decide +kernel)
theorem vfd_5 {B : Nat → Int} {s L : Nat} (hL : 1 ≤ L ∧ L ≤ 6) (hb : ∀ j, s ≤ j → j < s + L → 97 ≤ B j ∧ B j ≤ 122) : vfd B L s 0 = 408572082 ↔ spW B s L 5 := by
  have hlen : sLen.getD 5 0 = 6 := rfl
  have c0 : sch 5 0 = 108 := by decide +kernel
  have c1 : sch 5 1 = 101 := by decide +kernel
  have c2 : sch 5 2 = 116 := by decide +kernel
  have c3 : sch 5 3 = 116 := by decide +kernel
  have c4 : sch 5 4 = 101 := by decide +kernel
  have c5 : sch 5 5 = 114 := by decide +kernel
  rcases (by omega : L = 1 ∨ L = 2 ∨ L = 3 ∨ L = 4 ∨ L = 5 ∨ L = 6) with rfl | rfl | rfl | rfl | rfl | rfl
  · have h0 := hb s (by omega) (by omega)
    constructor
    · intro h
      exfalso
      have h' : (32 * 0 + (B s - 96)) = 408572082 := h
      omega
    · intro h
      exfalso
      have h' : 1 = sLen.getD 5 0 := h.1
      rw [hlen] at h'
      omega
  · have h0 := hb s (by omega) (by omega)
    have h1 := hb (s + 1) (by omega) (by omega)
    constructor
    · intro h
      exfalso
      have h' : (32 * (32 * 0 + (B s - 96)) + (B (s + 1) - 96)) = 408572082 := h
      omega
    · intro h
      exfalso
      have h' : 2 = sLen.getD 5 0 := h.1
      rw [hlen] at h'
      omega
  · have h0 := hb s (by omega) (by omega)
    have h1 := hb (s + 1) (by omega) (by omega)
    have h2 := hb (s + 1 + 1) (by omega) (by omega)
    constructor
    · intro h
      exfalso
      have h' : (32 * (32 * (32 * 0 + (B s - 96)) + (B (s + 1) - 96)) + (B (s + 1 + 1) - 96)) = 408572082 := h
      omega
    · intro h
      exfalso
      have h' : 3 = sLen.getD 5 0 := h.1
      rw [hlen] at h'
      omega
  · have h0 := hb s (by omega) (by omega)
    have h1 := hb (s + 1) (by omega) (by omega)
    have h2 := hb (s + 1 + 1) (by omega) (by omega)
    have h3 := hb (s + 1 + 1 + 1) (by omega) (by omega)
    constructor
    · intro h
      exfalso
      have h' : (32 * (32 * (32 * (32 * 0 + (B s - 96)) + (B (s + 1) - 96)) + (B (s + 1 + 1) - 96)) + (B (s + 1 + 1 + 1) - 96)) = 408572082 := h
      omega
    · intro h
      exfalso
      have h' : 4 = sLen.getD 5 0 := h.1
      rw [hlen] at h'
      omega
  · have h0 := hb s (by omega) (by omega)
    have h1 := hb (s + 1) (by omega) (by omega)
    have h2 := hb (s + 1 + 1) (by omega) (by omega)
    have h3 := hb (s + 1 + 1 + 1) (by omega) (by omega)
    have h4 := hb (s + 1 + 1 + 1 + 1) (by omega) (by omega)
    constructor
    · intro h
      exfalso
      have h' : (32 * (32 * (32 * (32 * (32 * 0 + (B s - 96)) + (B (s + 1) - 96)) + (B (s + 1 + 1) - 96)) + (B (s + 1 + 1 + 1) - 96)) + (B (s + 1 + 1 + 1 + 1) - 96)) = 408572082 := h
      omega
    · intro h
      exfalso
      have h' : 5 = sLen.getD 5 0 := h.1
      rw [hlen] at h'
      omega
  · have h0 := hb s (by omega) (by omega)
    have h1 := hb (s + 1) (by omega) (by omega)
    have h2 := hb (s + 1 + 1) (by omega) (by omega)
    have h3 := hb (s + 1 + 1 + 1) (by omega) (by omega)
    have h4 := hb (s + 1 + 1 + 1 + 1) (by omega) (by omega)
    have h5 := hb (s + 1 + 1 + 1 + 1 + 1) (by omega) (by omega)
    constructor
    · intro h
      have h' : (32 * (32 * (32 * (32 * (32 * (32 * 0 + (B s - 96)) + (B (s + 1) - 96)) + (B (s + 1 + 1) - 96)) + (B (s + 1 + 1 + 1) - 96)) + (B (s + 1 + 1 + 1 + 1) - 96)) + (B (s + 1 + 1 + 1 + 1 + 1) - 96)) = 408572082 := h
      refine ⟨rfl, fun i hi => ?_⟩
      rw [hlen] at hi
      rcases (by omega : i = 0 ∨ i = 1 ∨ i = 2 ∨ i = 3 ∨ i = 4 ∨ i = 5) with rfl | rfl | rfl | rfl | rfl | rfl
      · rw [c0]
        show B s = 108
        omega
      · rw [c1]
        show B (s + 1) = 101
        omega
      · rw [c2]
        show B (s + 1 + 1) = 116
        omega
      · rw [c3]
        show B (s + 1 + 1 + 1) = 116
        omega
      · rw [c4]
        show B (s + 1 + 1 + 1 + 1) = 101
        omega
      · rw [c5]
        show B (s + 1 + 1 + 1 + 1 + 1) = 114
        omega
    · rintro ⟨_, h⟩
      have a0 : B s = 108 := by have := h 0 (by rw [hlen]; omega); rw [c0] at this; exact this
      have a1 : B (s + 1) = 101 := by have := h 1 (by rw [hlen]; omega); rw [c1] at this; exact this
      have a2 : B (s + 1 + 1) = 116 := by have := h 2 (by rw [hlen]; omega); rw [c2] at this; exact this
      have a3 : B (s + 1 + 1 + 1) = 116 := by have := h 3 (by rw [hlen]; omega); rw [c3] at this; exact this
      have a4 : B (s + 1 + 1 + 1 + 1) = 101 := by have := h 4 (by rw [hlen]; omega); rw [c4] at this; exact this
      have a5 : B (s + 1 + 1 + 1 + 1 + 1) = 114 := by have := h 5 (by rw [hlen]; omega); rw [c5] at this; exact this
      show (32 * (32 * (32 * (32 * (32 * (32 * 0 + (B s - 96)) + (B (s + 1) - 96)) + (B (s + 1 + 1) - 96)) + (B (s + 1 + 1 + 1) - 96)) + (B (s + 1 + 1 + 1 + 1) - 96)) + (B (s + 1 + 1 + 1 + 1 + 1) - 96)) = 408572082
      omega
theorem sp_k6 (σ : Mem) : X11_spelt σ 0 0 23 9 19 8 = some 763496 := congrArg some (by decide +kernel)
theorem vfd_6 {B : Nat → Int} {s L : Nat} (hL : 1 ≤ L ∧ L ≤ 6) (hb : ∀ j, s ≤ j → j < s + L → 97 ≤ B j ∧ B j ≤ 122) : vfd B L s 0 = 763496 ↔ spW B s L 6 := by
  have hlen : sLen.getD 6 0 = 4 := rfl
  have c0 : sch 6 0 = 119 := by decide +kernel
  have c1 : sch 6 1 = 105 := by decide +kernel
  have c2 : sch 6 2 = 115 := by decide +kernel
  have c3 : sch 6 3 = 104 := by decide +kernel
  rcases (by omega : L = 1 ∨ L = 2 ∨ L = 3 ∨ L = 4 ∨ L = 5 ∨ L = 6) with rfl | rfl | rfl | rfl | rfl | rfl
  · have h0 := hb s (by omega) (by omega)
    constructor
    · intro h
      exfalso
      have h' : (32 * 0 + (B s - 96)) = 763496 := h
      omega
    · intro h
      exfalso
      have h' : 1 = sLen.getD 6 0 := h.1
      rw [hlen] at h'
      omega
  · have h0 := hb s (by omega) (by omega)
    have h1 := hb (s + 1) (by omega) (by omega)
    constructor
    · intro h
      exfalso
      have h' : (32 * (32 * 0 + (B s - 96)) + (B (s + 1) - 96)) = 763496 := h
      omega
    · intro h
      exfalso
      have h' : 2 = sLen.getD 6 0 := h.1
      rw [hlen] at h'
      omega
  · have h0 := hb s (by omega) (by omega)
    have h1 := hb (s + 1) (by omega) (by omega)
    have h2 := hb (s + 1 + 1) (by omega) (by omega)
    constructor
    · intro h
      exfalso
      have h' : (32 * (32 * (32 * 0 + (B s - 96)) + (B (s + 1) - 96)) + (B (s + 1 + 1) - 96)) = 763496 := h
      omega
    · intro h
      exfalso
      have h' : 3 = sLen.getD 6 0 := h.1
      rw [hlen] at h'
      omega
  · have h0 := hb s (by omega) (by omega)
    have h1 := hb (s + 1) (by omega) (by omega)
    have h2 := hb (s + 1 + 1) (by omega) (by omega)
    have h3 := hb (s + 1 + 1 + 1) (by omega) (by omega)
    constructor
    · intro h
      have h' : (32 * (32 * (32 * (32 * 0 + (B s - 96)) + (B (s + 1) - 96)) + (B (s + 1 + 1) - 96)) + (B (s + 1 + 1 + 1) - 96)) = 763496 := h
      refine ⟨rfl, fun i hi => ?_⟩
      rw [hlen] at hi
      rcases (by omega : i = 0 ∨ i = 1 ∨ i = 2 ∨ i = 3) with rfl | rfl | rfl | rfl
      · rw [c0]
        show B s = 119
        omega
      · rw [c1]
        show B (s + 1) = 105
        omega
      · rw [c2]
        show B (s + 1 + 1) = 115
        omega
      · rw [c3]
        show B (s + 1 + 1 + 1) = 104
        omega
    · rintro ⟨_, h⟩
      have a0 : B s = 119 := by have := h 0 (by rw [hlen]; omega); rw [c0] at this; exact this
      have a1 : B (s + 1) = 105 := by have := h 1 (by rw [hlen]; omega); rw [c1] at this; exact this
      have a2 : B (s + 1 + 1) = 115 := by have := h 2 (by rw [hlen]; omega); rw [c2] at this; exact this
      have a3 : B (s + 1 + 1 + 1) = 104 := by have := h 3 (by rw [hlen]; omega); rw [c3] at this; exact this
      show (32 * (32 * (32 * (32 * 0 + (B s - 96)) + (B (s + 1) - 96)) + (B (s + 1 + 1) - 96)) + (B (s + 1 + 1 + 1) - 96)) = 763496
      omega
  · have h0 := hb s (by omega) (by omega)
    have h1 := hb (s + 1) (by omega) (by omega)
    have h2 := hb (s + 1 + 1) (by omega) (by omega)
    have h3 := hb (s + 1 + 1 + 1) (by omega) (by omega)
    have h4 := hb (s + 1 + 1 + 1 + 1) (by omega) (by omega)
    constructor
    · intro h
      exfalso
      have h' : (32 * (32 * (32 * (32 * (32 * 0 + (B s - 96)) + (B (s + 1) - 96)) + (B (s + 1 + 1) - 96)) + (B (s + 1 + 1 + 1) - 96)) + (B (s + 1 + 1 + 1 + 1) - 96)) = 763496 := h
      omega
    · intro h
      exfalso
      have h' : 5 = sLen.getD 6 0 := h.1
      rw [hlen] at h'
      omega
  · have h0 := hb s (by omega) (by omega)
    have h1 := hb (s + 1) (by omega) (by omega)
    have h2 := hb (s + 1 + 1) (by omega) (by omega)
    have h3 := hb (s + 1 + 1 + 1) (by omega) (by omega)
    have h4 := hb (s + 1 + 1 + 1 + 1) (by omega) (by omega)
    have h5 := hb (s + 1 + 1 + 1 + 1 + 1) (by omega) (by omega)
    constructor
    · intro h
      exfalso
      have h' : (32 * (32 * (32 * (32 * (32 * (32 * 0 + (B s - 96)) + (B (s + 1) - 96)) + (B (s + 1 + 1) - 96)) + (B (s + 1 + 1 + 1) - 96)) + (B (s + 1 + 1 + 1 + 1) - 96)) + (B (s + 1 + 1 + 1 + 1 + 1) - 96)) = 763496 := h
      omega
    · intro h
      exfalso
      have h' : 6 = sLen.getD 6 0 := h.1
      rw [hlen] at h'
      omega
theorem vfd_in {B : Nat → Int} : ∀ (m i : Nat) (a : Int) (t : Nat), 0 ≤ a → a < ((32 ^ t : Nat) : Int) → t + m ≤ 7 → (∀ j, i ≤ j → j < i + m → 97 ≤ B j ∧ B j ≤ 122) → 0 ≤ vfd B m i a ∧ vfd B m i a < 34359738368
  | 0, _, a, t, h1, h2, h3, _ => by
    have h7 : 32 ^ t ≤ 32 ^ 7 := Nat.pow_le_pow_right (by decide) (by omega)
    show 0 ≤ a ∧ a < 34359738368
    generalize 32 ^ t = x at h2 h7
    have e : 32 ^ 7 = 34359738368 := by decide
    omega
  | m + 1, i, a, t, h1, h2, h3, h4 => by
    have hb := h4 i (by omega) (by omega)
    refine vfd_in m (i + 1) _ (t + 1) (by omega) ?_ (by omega) (fun j j1 j2 => h4 j (by omega) (by omega))
    rw [Nat.pow_succ]
    generalize 32 ^ t = x at h2
    omega
theorem vfd_snoc {B : Nat → Int} : ∀ (m i : Nat) (a : Int), vfd B (m + 1) i a = 32 * vfd B m i a + (B (i + m) - 96)
  | 0, i, a => rfl
  | m + 1, i, a => by
    have := vfd_snoc (B := B) m (i + 1) (32 * a + (B i - 96))
    rw [show i + 1 + m = i + (m + 1) by omega] at this
    exact this
def WM (B : Nat → Int) (s L : Nat) (v : Int) : Prop := ∃ c, WC B s L c ∧ ((c < 7 ∧ v = c) ∨ (c = 7 ∧ v = -1))
theorem m_wordOf {B : Nat → Int} {s L : Nat} (hL : 1 ≤ L ∧ L ≤ 6) (hb : ∀ j, s ≤ j → j < s + L → 97 ≤ B j ∧ B j ≤ 122) (σ : Mem) : ∃ v, X11_wordOf σ (vfd B L s 0) = some v ∧ WM B s L v := by
  have hin := vfd_in (B := B) L s 0 0 (by omega) (by decide) (by omega) hb
  have k0 := vfd_0 hL hb
  have k1 := vfd_1 hL hb
  have k2 := vfd_2 hL hb
  have k3 := vfd_3 hL hb
  have k4 := vfd_4 hL hb
  have k5 := vfd_5 hL hb
  have k6 := vfd_6 hL hb
  generalize vfd B L s 0 = V at *
  have hV : w64 V = V := w64_id (by omega) (by omega)
  unfold X11_wordOf
  rw [bdk (sp_k0 σ), hV, show w64 87673 = 87673 from rfl]
  by_cases x0 : V = 87673
  · rw [if_neg (fun q => q x0)]
    exact ⟨0, rfl, 0, Or.inl ⟨0, by omega, rfl, k0.mp x0, fun v hv => by omega⟩, Or.inl ⟨by omega, rfl⟩⟩
  · rw [if_pos x0]
    rw [bdk (sp_k1 σ), show w64 263558 = 263558 from rfl]
    by_cases x1 : V = 263558
    · rw [if_neg (fun q => q x1)]
      refine ⟨1, rfl, 1, Or.inl ⟨1, by omega, rfl, k1.mp x1, fun v hv => ?_⟩, Or.inl ⟨by omega, rfl⟩⟩
      rw [show v = 0 by omega]
      exact fun q => x0 (k0.mpr q)
    · rw [if_pos x1]
      rw [bdk (sp_k2 σ), show w64 215205 = 215205 from rfl]
      by_cases x2 : V = 215205
      · rw [if_neg (fun q => q x2)]
        refine ⟨2, rfl, 2, Or.inl ⟨2, by omega, rfl, k2.mp x2, fun v hv => ?_⟩, Or.inl ⟨by omega, rfl⟩⟩
        rcases (by omega : v = 0 ∨ v = 1) with rfl | rfl
        · exact fun q => x0 (k0.mpr q)
        · exact fun q => x1 (k1.mpr q)
      · rw [if_pos x2]
        rw [bdk (sp_k3 σ), show w64 2262675 = 2262675 from rfl]
        by_cases x3 : V = 2262675
        · rw [if_neg (fun q => q x3)]
          refine ⟨3, rfl, 3, Or.inl ⟨3, by omega, rfl, k3.mp x3, fun v hv => ?_⟩, Or.inl ⟨by omega, rfl⟩⟩
          rcases (by omega : v = 0 ∨ v = 1 ∨ v = 2) with rfl | rfl | rfl
          · exact fun q => x0 (k0.mpr q)
          · exact fun q => x1 (k1.mpr q)
          · exact fun q => x2 (k2.mpr q)
        · rw [if_pos x3]
          rw [bdk (sp_k4 σ), show w64 365744 = 365744 from rfl]
          by_cases x4 : V = 365744
          · rw [if_neg (fun q => q x4)]
            refine ⟨4, rfl, 4, Or.inl ⟨4, by omega, rfl, k4.mp x4, fun v hv => ?_⟩, Or.inl ⟨by omega, rfl⟩⟩
            rcases (by omega : v = 0 ∨ v = 1 ∨ v = 2 ∨ v = 3) with rfl | rfl | rfl | rfl
            · exact fun q => x0 (k0.mpr q)
            · exact fun q => x1 (k1.mpr q)
            · exact fun q => x2 (k2.mpr q)
            · exact fun q => x3 (k3.mpr q)
          · rw [if_pos x4]
            rw [bdk (sp_k5 σ), show w64 408572082 = 408572082 from rfl]
            by_cases x5 : V = 408572082
            · rw [if_neg (fun q => q x5)]
              refine ⟨5, rfl, 5, Or.inl ⟨5, by omega, rfl, k5.mp x5, fun v hv => ?_⟩, Or.inl ⟨by omega, rfl⟩⟩
              rcases (by omega : v = 0 ∨ v = 1 ∨ v = 2 ∨ v = 3 ∨ v = 4) with rfl | rfl | rfl | rfl | rfl
              · exact fun q => x0 (k0.mpr q)
              · exact fun q => x1 (k1.mpr q)
              · exact fun q => x2 (k2.mpr q)
              · exact fun q => x3 (k3.mpr q)
              · exact fun q => x4 (k4.mpr q)
            · rw [if_pos x5]
              rw [bdk (sp_k6 σ), show w64 763496 = 763496 from rfl]
              by_cases x6 : V = 763496
              · rw [if_neg (fun q => q x6)]
                refine ⟨6, rfl, 6, Or.inl ⟨6, by omega, rfl, k6.mp x6, fun v hv => ?_⟩, Or.inl ⟨by omega, rfl⟩⟩
                rcases (by omega : v = 0 ∨ v = 1 ∨ v = 2 ∨ v = 3 ∨ v = 4 ∨ v = 5) with rfl | rfl | rfl | rfl | rfl | rfl
                · exact fun q => x0 (k0.mpr q)
                · exact fun q => x1 (k1.mpr q)
                · exact fun q => x2 (k2.mpr q)
                · exact fun q => x3 (k3.mpr q)
                · exact fun q => x4 (k4.mpr q)
                · exact fun q => x5 (k5.mpr q)
              · rw [if_pos x6]
                refine ⟨-1, rfl, 7, Or.inr ⟨rfl, fun v hv => ?_⟩, Or.inr ⟨rfl, rfl⟩⟩
                rcases (by omega : v = 0 ∨ v = 1 ∨ v = 2 ∨ v = 3 ∨ v = 4 ∨ v = 5 ∨ v = 6) with rfl | rfl | rfl | rfl | rfl | rfl | rfl
                · exact fun q => x0 (k0.mpr q)
                · exact fun q => x1 (k1.mpr q)
                · exact fun q => x2 (k2.mpr q)
                · exact fun q => x3 (k3.mpr q)
                · exact fun q => x4 (k4.mpr q)
                · exact fun q => x5 (k5.mpr q)
                · exact fun q => x6 (k6.mpr q)
