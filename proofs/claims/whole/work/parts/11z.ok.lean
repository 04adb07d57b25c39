theorem okm_all : ∀ mi, mi < 267 → okM mi = true := sorry
