/-! what a call of both sides comes to -/
def StepI (Rel : St → St → Prop) (fc fm : Option (Int32 × St)) : Prop := ∃ r cs ms, fc = some (r, cs) ∧ fm = some (r, ms) ∧ Rel cs ms
def StepL (Rel : St → St → Prop) (fc fm : Option (Int64 × St)) : Prop := ∃ r cs ms, fc = some (r, cs) ∧ fm = some (r, ms) ∧ Rel cs ms
def StepR (Rel : St → St → Prop) (ms : St) (fc : Option (Int32 × St)) (fm : Option Int32) : Prop := ∃ r cs, fc = some (r, cs) ∧ fm = some r ∧ Rel cs ms
