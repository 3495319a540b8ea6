section
variable {l : Launch} {G : zG}
example (x : Int32) (h : x = (Int8.ofInt 10).toInt32) (h2 : ¬ (Int16.ofInt 720).toInt32 ≤ x) (h3 : x < Int32.ofInt (-1)) (h4 : x < Int32.ofInt 5) : x = 10 := by
  simp at h h2 h3 h4
  trace_state
  sorry
example (x : Int32) (h : x = (Int8.ofInt 10).toInt32) (h2 : ¬ (Int16.ofInt 720).toInt32 ≤ x) (h3 : x < Int32.ofInt (-1)) (h4 : x < Int32.ofInt 5) : x = 10 := by
  have h5 : x = 10 := h
  have h6 : ¬ 720 ≤ x := h2
  have h7 : x < -1 := h3
  trace_state
  exact h5
set_option maxRecDepth 100000 in
set_option maxHeartbeats 4000000 in
theorem c_X9_isBlank (hG : zOK l G) (x : Int32) (σ : zS) : zRuns l G mX9_isBlank [.int x] σ (fun r σ' => r = some (.int (if x = 10 ∨ x = 32 then 1 else 0)) ∧ σ' = σ) := by
  refine z_en hG wX9_isBlank qX9_isBlank [] 20 rfl rfl ?_
  repeat refine And.intro (by first | rfl | assumption) ?_
  refine And.intro (fun h => ?_) (fun h => ?_)
  · repeat refine And.intro (by first | rfl | assumption) ?_
    trace_state
    sorry
  · repeat refine And.intro (by first | rfl | assumption) ?_
    refine And.intro (fun h2 => ?_) (fun h2 => ?_)
    · repeat refine And.intro (by first | rfl | assumption) ?_
      refine And.intro (fun _ => And.intro ?_ rfl) (Or.inl rfl)
      trace_state
      sorry
    · repeat refine And.intro (by first | rfl | assumption) ?_
      sorry
end
