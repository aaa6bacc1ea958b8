/-- an array class over arrays of ty has been made, whoever asks -/
def va_AOA (ty : FieldType) (s : State) : Prop := ∀ args : Array Value, (Cond.arrayOver (.array ty)).before args s = true
theorem va_AOA.use {ty : FieldType} {s : State} {args : Array Value} (h : va_AOA ty s) : (Cond.arrayOver (.array ty)).before args s = true := h args
