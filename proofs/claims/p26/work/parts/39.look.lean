/-! the reference's looks -/
theorem sp_lit_c {σ : sp_St} {f d : Nat} (hd : d < 10) (e : σ (4 + f) = nI d) (x : Int32) : sp_if (sp_vis σ f) x 0 = sp_if (sp_R σ f d = -1) 0 x := by
  by_cases c : sp_R σ f d = -1
  · rw [sp_if_t c, sp_if_f (fun z => (sp_can_n hd).1 (show sp_can (sp_R σ f) (nI d) from by rw [← e]; exact z) c)]
  · rw [sp_if_f c, sp_if_t (show sp_vis σ f from by unfold sp_vis; rw [e]; exact (sp_can_n hd).2 c)]
section SM
variable {g : mm_Gg} {I : mm_Is} {x y z : Int32} {l d k t u f w n : Nat} {σ : sp_St}
end SM
