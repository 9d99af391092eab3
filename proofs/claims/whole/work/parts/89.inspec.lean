def wsX9_initA : List Cond := wsX9_init ++ [.arrayOver (.object "RowRules$Graph")]
